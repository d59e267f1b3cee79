def fX0_layOver_J49 (v1 : Int32) (v2 : Int32) (v3 : Int32) (mm : zM) : Option zM :=
  if v3 = 3 then (zob (zin v1 312) ((fX0_addSource v2 ((gi mm 13 0 (zn v1))) mm).bind (fun x2 => some x2))) else (some mm)
def fX0_layOver_J38 (v1 : Int32) (v2 : Int32) (v3 : Int32) (mm : zM) : Option zM :=
  zob (zin v1 312) ((fX0_addSource v2 ((gi mm 12 0 (zn v1))) mm).bind (fun x1 => fX0_layOver_J49 v1 v2 v3 x1))
def fX0_layOver_J28 (v1 : Int32) (v2 : Int32) (v3 : Int32) (mm : zM) : Option zM :=
  if v3 = 1 then (fX0_layOver_J38 v1 v2 v3 mm) else (if v3 = 3 then (fX0_layOver_J38 v1 v2 v3 mm) else (fX0_layOver_J49 v1 v2 v3 mm))
def fX0_layOver (v1 : Int32) (v2 : Int32) (mm : zM) : Option zM :=
  zob (zin v1 312) (if (gi mm 11 0 (zn v1)) = 2 then (zob (zin v2 312) (if (gi mm 11 0 (zn v2)) = 0 then (zob (zin v2 312) (fX0_layOver_J28 v1 v2 ((gi mm 11 0 (zn v1))) ((wi mm 11 0 (zn v2) 2)))) else (fX0_layOver_J28 v1 v2 ((gi mm 11 0 (zn v1))) mm))) else (fX0_layOver_J28 v1 v2 ((gi mm 11 0 (zn v1))) mm))
theorem wX0_layOver_J49 {E : zE} {d : Nat} (hd : 1 ≤ d) {Q : Option zV → zM → Prop} {v1 : Int32} {v2 : Int32} {v3 : Int32} {mm : zM} {o : zM} (h : fX0_layOver_J49 v1 v2 v3 mm = some o) (hQ : ∀ r, o = r → Q none r) : V E RX0 cX0_layOver 4 none d Q 49 [some (zK 0 0), some (zI v1), some (zI v2), some (zI v3)] [] mm := by
  unfold fX0_layOver_J49 at h
  refine V_iload_n 50 rfl 3 dX0_layOver_49 rfl rfl ?_
  refine V_iconst 51 rfl (v := 3) dX0_layOver_50 (by decide) ?_
  refine V_icmp_ne 54 65 rfl dX0_layOver_51 (by decide) (fun c => ?_) (fun c => ?_)
  · have h := zneg c h
    exact V_vret dX0_layOver_65 rfl (hQ mm (zinj h))
  · have h := zpos c h
    refine V_aload_n 55 rfl 0 dX0_layOver_54 rfl rfl ?_
    refine V_iload_n 56 rfl 2 dX0_layOver_55 rfl rfl ?_
    refine V_aload_n 57 rfl 0 dX0_layOver_56 rfl rfl ?_
    refine V_getr 60 rfl 13 0 dX0_layOver_57 fl_X0_18 rfl rfl rfl ?_
    refine V_iload_n 61 rfl 1 dX0_layOver_60 rfl rfl ?_
    obtain ⟨hi, h⟩ := zobd h
    refine V_iald 62 rfl dX0_layOver_61 rfl hi ?_
    obtain ⟨x2, h1, h⟩ := zbd h
    refine V_cV 65 rfl 0 [zI v2, zI (gi mm 13 0 (zn v1))] [] dX0_layOver_62 cv_X0_73 (ctX0_addSource (Nat.le_refl 0) h1) (Nat.le_trans (by decide) hd) rfl rfl (Nat.le_of_ble_eq_true rfl) zokn rfl ?_
    exact V_vret dX0_layOver_65 rfl (hQ x2 (zinj h))
theorem wX0_layOver_J38 {E : zE} {d : Nat} (hd : 1 ≤ d) {Q : Option zV → zM → Prop} {v1 : Int32} {v2 : Int32} {v3 : Int32} {mm : zM} {o : zM} (h : fX0_layOver_J38 v1 v2 v3 mm = some o) (hQ : ∀ r, o = r → Q none r) : V E RX0 cX0_layOver 4 none d Q 38 [some (zK 0 0), some (zI v1), some (zI v2), some (zI v3)] [] mm := by
  unfold fX0_layOver_J38 at h
  refine V_aload_n 39 rfl 0 dX0_layOver_38 rfl rfl ?_
  refine V_iload_n 40 rfl 2 dX0_layOver_39 rfl rfl ?_
  refine V_aload_n 41 rfl 0 dX0_layOver_40 rfl rfl ?_
  refine V_getr 44 rfl 12 0 dX0_layOver_41 fl_X0_15 rfl rfl rfl ?_
  refine V_iload_n 45 rfl 1 dX0_layOver_44 rfl rfl ?_
  obtain ⟨hi, h⟩ := zobd h
  refine V_iald 46 rfl dX0_layOver_45 rfl hi ?_
  obtain ⟨x1, h1, h⟩ := zbd h
  refine V_cV 49 rfl 0 [zI v2, zI (gi mm 12 0 (zn v1))] [] dX0_layOver_46 cv_X0_73 (ctX0_addSource (Nat.le_refl 0) h1) (Nat.le_trans (by decide) hd) rfl rfl (Nat.le_of_ble_eq_true rfl) zokn rfl ?_
  exact wX0_layOver_J49 hd h hQ
theorem wX0_layOver_J28 {E : zE} {d : Nat} (hd : 1 ≤ d) {Q : Option zV → zM → Prop} {v1 : Int32} {v2 : Int32} {v3 : Int32} {mm : zM} {o : zM} (h : fX0_layOver_J28 v1 v2 v3 mm = some o) (hQ : ∀ r, o = r → Q none r) : V E RX0 cX0_layOver 4 none d Q 28 [some (zK 0 0), some (zI v1), some (zI v2), some (zI v3)] [] mm := by
  unfold fX0_layOver_J28 at h
  refine V_iload_n 29 rfl 3 dX0_layOver_28 rfl rfl ?_
  refine V_iconst 30 rfl (v := 1) dX0_layOver_29 (by decide) ?_
  refine V_icmp_eq 33 38 rfl dX0_layOver_30 (by decide) (fun c => ?_) (fun c => ?_)
  · have h := zpos c h
    exact wX0_layOver_J38 hd h hQ
  · have h := zneg c h
    refine V_iload_n 34 rfl 3 dX0_layOver_33 rfl rfl ?_
    refine V_iconst 35 rfl (v := 3) dX0_layOver_34 (by decide) ?_
    refine V_icmp_ne 38 49 rfl dX0_layOver_35 (by decide) (fun c => ?_) (fun c => ?_)
    · have h := zneg c h
      exact wX0_layOver_J49 hd h hQ
    · have h := zpos c h
      exact wX0_layOver_J38 hd h hQ
theorem wX0_layOver {E : zE} {d : Nat} (hd : 1 ≤ d) {Q : Option zV → zM → Prop} {v1 : Int32} {v2 : Int32} {mm : zM} {o : zM} (h : fX0_layOver v1 v2 mm = some o) (hQ : ∀ r, o = r → Q none r) : V E RX0 cX0_layOver 4 none d Q 0 [some (zK 0 0), some (zI v1), some (zI v2), none] [] mm := by
  unfold fX0_layOver at h
  refine V_aload_n 1 rfl 0 dX0_layOver_0 rfl rfl ?_
  refine V_getr 4 rfl 11 0 dX0_layOver_1 fl_X0_9 rfl rfl rfl ?_
  refine V_iload_n 5 rfl 1 dX0_layOver_4 rfl rfl ?_
  obtain ⟨hi, h⟩ := zobd h
  refine V_iald 6 rfl dX0_layOver_5 rfl hi ?_
  refine V_istore_n 7 rfl 3 (L' := [some (zK 0 0), some (zI v1), some (zI v2), some (zI (gi mm 11 0 (zn v1)))]) dX0_layOver_6 rfl (by decide) rfl ?_
  refine V_iload_n 8 rfl 3 dX0_layOver_7 rfl rfl ?_
  refine V_iconst 9 rfl (v := 2) dX0_layOver_8 (by decide) ?_
  refine V_icmp_ne 12 28 rfl dX0_layOver_9 (by decide) (fun c => ?_) (fun c => ?_)
  · have h := zneg c h
    exact wX0_layOver_J28 hd h hQ
  · have h := zpos c h
    refine V_aload_n 13 rfl 0 dX0_layOver_12 rfl rfl ?_
    refine V_getr 16 rfl 11 0 dX0_layOver_13 fl_X0_9 rfl rfl rfl ?_
    refine V_iload_n 17 rfl 2 dX0_layOver_16 rfl rfl ?_
    obtain ⟨hi, h⟩ := zobd h
    refine V_iald 18 rfl dX0_layOver_17 rfl hi ?_
    refine V_if_ne 21 28 rfl dX0_layOver_18 (by decide) (fun c => ?_) (fun c => ?_)
    · have h := zneg c h
      exact wX0_layOver_J28 hd h hQ
    · have h := zpos c h
      refine V_aload_n 22 rfl 0 dX0_layOver_21 rfl rfl ?_
      refine V_getr 25 rfl 11 0 dX0_layOver_22 fl_X0_9 rfl rfl rfl ?_
      refine V_iload_n 26 rfl 2 dX0_layOver_25 rfl rfl ?_
      refine V_iconst 27 rfl (v := 2) dX0_layOver_26 (by decide) ?_
      obtain ⟨hi, h⟩ := zobd h
      refine V_iast 28 rfl dX0_layOver_27 rfl hi ?_
      exact wX0_layOver_J28 hd h hQ
theorem ctX0_layOver {E : zE} {d : Nat} (hd : 1 ≤ d) {v1 : Int32} {v2 : Int32} {mm : zM} {o : zM} (h : fX0_layOver v1 v2 mm = some o) : zOC E yX0_layOver cX0_layOver 4 none d [zK 0 0, zI v1, zI v2] mm none o :=
  zCT_of (by decide) (Nat.le_of_ble_eq_true rfl) (zk_k (zk_i (zk_i zk_0))) rfl (wX0_layOver hd h (fun r e => ⟨rfl, by rw [e]⟩))
def fX0_layTrait_L13 (v1 : Nat) (v2 : Int32) (v3 : Int32) (v4 : Int32) (s : (Int32 × zM)) : Option ((Int32 × zM) ⊕ (zM ⊕ Empty)) :=
  if 26 ≤ s.1 then (some (.inr (.inl s.2))) else ((fX7_letterThere v1 v3 s.1 s.2).bind (fun x2 => if x2 = (-1) then (some (.inl ((s.1 + 1), s.2))) else ((fX7_hasBody v1 x2 s.2).bind (fun x3 => if x3 = 0 then ((fX0_layOver ((((v4 * 26)) + s.1)) ((((v2 * 26)) + x2)) s.2).bind (fun x4 => some (.inl ((s.1 + 1), x4)))) else (some (.inl ((s.1 + 1), s.2)))))))
def fX0_layTrait (v1 : Nat) (v2 : Int32) (v3 : Int32) (mm : zM) : Option zM :=
  (fX5_itemAt ((2 * v1 + 1)) v3 mm).bind (fun x1 => (zloop (fX0_layTrait_L13 v1 v2 v3 x1) zF (0, mm)).bind (fun o7 => zcase o7 (fun y5 => some y5) (fun r6 => r6.elim)))
theorem wX0_layTrait_L13 {E : zE} {d : Nat} (hd : 2 ≤ d) {Q : Option zV → zM → Prop} {v1 : Nat} {v2 : Int32} {v3 : Int32} {v4 : Int32} {n : Nat} {s : (Int32 × zM)} {o : zM ⊕ Empty} (h : zloop (fX0_layTrait_L13 v1 v2 v3 v4) n s = some o) (he : ∀ y : zM, o = .inl y → V E RX0 cX0_layTrait 7 none d Q 69 [none, none, none, none, none, none, none] [] y) : V E RX0 cX0_layTrait 7 none d Q 13 [some (zK 0 0), some (zK 7 v1), some (zI v2), some (zI v3), some (zI v4), some (zI s.1), none] [] s.2 := by
  induction n generalizing s with
  | zero => exact (zloop_0 h).elim
  | succ n ih =>
    obtain ⟨o1, h1, hc1, he1⟩ := zloop_s h
    have kc : ∀ s' : (Int32 × zM), o1 = .inl s' → V E RX0 cX0_layTrait 7 none d Q 13 [some (zK 0 0), some (zK 7 v1), some (zI v2), some (zI v3), some (zI v4), some (zI s'.1), none] [] s'.2 := fun s' e => ih (hc1 s' e)
    have ke : ∀ y : zM, o1 = .inr (.inl y) → V E RX0 cX0_layTrait 7 none d Q 69 [none, none, none, none, none, none, none] [] y := fun y e => he y (he1 _ e)
    clear h hc1 he1 ih
    have h := h1
    clear h1
    unfold fX0_layTrait_L13 at h
    refine V_iload 15 rfl dX0_layTrait_13 rfl ?_
    refine V_bipush 17 rfl (v := 26) dX0_layTrait_15 (by decide) ?_
    refine V_icmp_ge 20 69 rfl dX0_layTrait_17 (by decide) (fun c => ?_) (fun c => ?_)
    · have h := zpos c h
      exact V_w (zsub_n (zsub_n (zsub_n (zsub_n (zsub_n (zsub_n (zsub_s zsub_0))))))) (ke s.2 (zinj h))
    · have h := zneg c h
      refine V_aload_n 21 rfl 1 dX0_layTrait_20 rfl rfl ?_
      refine V_iload_n 22 rfl 3 dX0_layTrait_21 rfl rfl ?_
      refine V_iload 24 rfl dX0_layTrait_22 rfl ?_
      obtain ⟨x2, h1, h⟩ := zbd h
      refine V_cV 27 rfl 0 [zI v3, zI s.1] [] dX0_layTrait_24 cv_X0_65 (ctX7_letterThere (Nat.le_refl 0) h1) (Nat.le_trans (by decide) hd) rfl rfl (Nat.le_of_ble_eq_true rfl) zoki rfl ?_
      refine V_istore 29 rfl (L' := [some (zK 0 0), some (zK 7 v1), some (zI v2), some (zI v3), some (zI v4), some (zI s.1), some (zI x2)]) dX0_layTrait_27 (by decide) rfl ?_
      refine V_iload 31 rfl dX0_layTrait_29 rfl ?_
      refine V_iconst 32 rfl (v := (-1)) dX0_layTrait_31 (by decide) ?_
      refine V_icmp_eq 35 63 rfl dX0_layTrait_32 (by decide) (fun c => ?_) (fun c => ?_)
      · have h := zpos c h
        refine V_iinc 66 rfl (s.1 + 1) (L' := [some (zK 0 0), some (zK 7 v1), some (zI v2), some (zI v3), some (zI v4), some (zI (s.1 + 1)), some (zI x2)]) dX0_layTrait_63 rfl rfl (by decide) rfl ?_
        refine V_goto 13 dX0_layTrait_66 (by decide) ?_
        exact V_w (zsub_s (zsub_s (zsub_s (zsub_s (zsub_s (zsub_s (zsub_n zsub_0))))))) (kc ((s.1 + 1), s.2) (zinj h))
      · have h := zneg c h
        refine V_aload_n 36 rfl 1 dX0_layTrait_35 rfl rfl ?_
        refine V_iload 38 rfl dX0_layTrait_36 rfl ?_
        obtain ⟨x3, h1, h⟩ := zbd h
        refine V_cV 41 rfl 0 [zI x2] [] dX0_layTrait_38 cv_X0_54 (ctX7_hasBody (Nat.le_refl 0) h1) (Nat.le_trans (by decide) hd) rfl rfl (Nat.le_of_ble_eq_true rfl) zoki rfl ?_
        refine V_if_ne 44 63 rfl dX0_layTrait_41 (by decide) (fun c => ?_) (fun c => ?_)
        · have h := zneg c h
          refine V_iinc 66 rfl (s.1 + 1) (L' := [some (zK 0 0), some (zK 7 v1), some (zI v2), some (zI v3), some (zI v4), some (zI (s.1 + 1)), some (zI x2)]) dX0_layTrait_63 rfl rfl (by decide) rfl ?_
          refine V_goto 13 dX0_layTrait_66 (by decide) ?_
          exact V_w (zsub_s (zsub_s (zsub_s (zsub_s (zsub_s (zsub_s (zsub_n zsub_0))))))) (kc ((s.1 + 1), s.2) (zinj h))
        · have h := zpos c h
          refine V_aload_n 45 rfl 0 dX0_layTrait_44 rfl rfl ?_
          refine V_iload 47 rfl dX0_layTrait_45 rfl ?_
          refine V_bipush 49 rfl (v := 26) dX0_layTrait_47 (by decide) ?_
          refine V_imul 50 rfl dX0_layTrait_49 ?_
          refine V_iload 52 rfl dX0_layTrait_50 rfl ?_
          refine V_iadd 53 rfl dX0_layTrait_52 ?_
          refine V_iload_n 54 rfl 2 dX0_layTrait_53 rfl rfl ?_
          refine V_bipush 56 rfl (v := 26) dX0_layTrait_54 (by decide) ?_
          refine V_imul 57 rfl dX0_layTrait_56 ?_
          refine V_iload 59 rfl dX0_layTrait_57 rfl ?_
          refine V_iadd 60 rfl dX0_layTrait_59 ?_
          obtain ⟨x4, h1, h⟩ := zbd h
          refine V_cV 63 rfl 1 [zI (((v4 * 26)) + s.1), zI (((v2 * 26)) + x2)] [] dX0_layTrait_60 cv_X0_69 (ctX0_layOver (Nat.le_refl 1) h1) (Nat.le_trans (by decide) hd) rfl rfl (Nat.le_of_ble_eq_true rfl) zokn rfl ?_
          refine V_iinc 66 rfl (s.1 + 1) (L' := [some (zK 0 0), some (zK 7 v1), some (zI v2), some (zI v3), some (zI v4), some (zI (s.1 + 1)), some (zI x2)]) dX0_layTrait_63 rfl rfl (by decide) rfl ?_
          refine V_goto 13 dX0_layTrait_66 (by decide) ?_
          exact V_w (zsub_s (zsub_s (zsub_s (zsub_s (zsub_s (zsub_s (zsub_n zsub_0))))))) (kc ((s.1 + 1), x4) (zinj h))
theorem wX0_layTrait {E : zE} {d : Nat} (hd : 2 ≤ d) {Q : Option zV → zM → Prop} {v1 : Nat} {v2 : Int32} {v3 : Int32} {mm : zM} {o : zM} (h : fX0_layTrait v1 v2 v3 mm = some o) (hQ : ∀ r, o = r → Q none r) : V E RX0 cX0_layTrait 7 none d Q 0 [some (zK 0 0), some (zK 7 v1), some (zI v2), some (zI v3), none, none, none] [] mm := by
  unfold fX0_layTrait at h
  refine V_aload_n 1 rfl 1 dX0_layTrait_0 rfl rfl ?_
  refine V_getr 4 rfl 5 (2 * v1 + 1) dX0_layTrait_1 fl_X0_41 rfl rfl rfl ?_
  refine V_iload_n 5 rfl 3 dX0_layTrait_4 rfl rfl ?_
  obtain ⟨x1, h1, h⟩ := zbd h
  refine V_cV 8 rfl 0 [zI v3] [] dX0_layTrait_5 cv_X0_61 (ctX5_itemAt (Nat.le_refl 0) h1) (Nat.le_trans (by decide) hd) rfl rfl (Nat.le_of_ble_eq_true rfl) zoki rfl ?_
  refine V_istore 10 rfl (L' := [some (zK 0 0), some (zK 7 v1), some (zI v2), some (zI v3), some (zI x1), none, none]) dX0_layTrait_8 (by decide) rfl ?_
  refine V_iconst 11 rfl (v := 0) dX0_layTrait_10 (by decide) ?_
  refine V_istore 13 rfl (L' := [some (zK 0 0), some (zK 7 v1), some (zI v2), some (zI v3), some (zI x1), some (zI 0), none]) dX0_layTrait_11 (by decide) rfl ?_
  obtain ⟨o7, h1, h⟩ := zbd h
  refine wX0_layTrait_L13 hd h1 (fun y5 e => ?_)
  have h := zcl_ e h
  exact V_vret dX0_layTrait_69 rfl (hQ y5 (zinj h))
theorem ctX0_layTrait {E : zE} {d : Nat} (hd : 2 ≤ d) {v1 : Nat} {v2 : Int32} {v3 : Int32} {mm : zM} {o : zM} (h : fX0_layTrait v1 v2 v3 mm = some o) : zOC E yX0_layTrait cX0_layTrait 7 none d [zK 0 0, zK 7 v1, zI v2, zI v3] mm none o :=
  zCT_of (by decide) (Nat.le_of_ble_eq_true rfl) (zk_k (zk_k (zk_i (zk_i zk_0)))) rfl (wX0_layTrait hd h (fun r e => ⟨rfl, by rw [e]⟩))
def fX0_layAll_L31 (v1 : Nat) (v2 : Int32) (s : (Int32 × zM)) : Option ((Int32 × zM) ⊕ (zM ⊕ Empty)) :=
  zob (zin v2 12) (if (gi s.2 5 (2 * (12 * v1 + zn v2) + 1) 1) ≤ s.1 then (some (.inr (.inl s.2))) else (zob (zin v2 12) ((fX0_layTrait ((12 * v1 + zn v2)) v2 s.1 s.2).bind (fun x3 => some (.inl ((s.1 + 1), x3))))))
def fX0_layAll_L10 (v1 : Nat) (s : (Int32 × zM)) : Option ((Int32 × zM) ⊕ (zM ⊕ Empty)) :=
  if (gi s.2 8 v1 1) ≤ s.1 then (some (.inr (.inl s.2))) else (zob (zin s.1 12) ((fX0_layOwn ((12 * v1 + zn s.1)) s.1 s.2).bind (fun x2 => (zloop (fX0_layAll_L31 v1 s.1) zF (0, x2)).bind (fun o6 => zcase o6 (fun y4 => some (.inl ((s.1 + 1), y4))) (fun r5 => r5.elim)))))
def fX0_layAll (v1 : Nat) (mm : zM) : Option zM :=
  (fJ7_fill_11 0 mm).bind (fun x1 => (zloop (fX0_layAll_L10 v1) zF (0, x1)).bind (fun o9 => zcase o9 (fun y7 => some y7) (fun r8 => r8.elim)))
theorem wX0_layAll_L31 {E : zE} {d : Nat} (hd : 3 ≤ d) {Q : Option zV → zM → Prop} {v1 : Nat} {v2 : Int32} {n : Nat} {s : (Int32 × zM)} {o : zM ⊕ Empty} (h : zloop (fX0_layAll_L31 v1 v2) n s = some o) (he : ∀ y : zM, o = .inl y → V E RX0 cX0_layAll 4 none d Q 65 [some (zK 0 0), some (zK 8 v1), some (zI v2), none] [] y) : V E RX0 cX0_layAll 4 none d Q 31 [some (zK 0 0), some (zK 8 v1), some (zI v2), some (zI s.1)] [] s.2 := by
  induction n generalizing s with
  | zero => exact (zloop_0 h).elim
  | succ n ih =>
    obtain ⟨o1, h1, hc1, he1⟩ := zloop_s h
    have kc : ∀ s' : (Int32 × zM), o1 = .inl s' → V E RX0 cX0_layAll 4 none d Q 31 [some (zK 0 0), some (zK 8 v1), some (zI v2), some (zI s'.1)] [] s'.2 := fun s' e => ih (hc1 s' e)
    have ke : ∀ y : zM, o1 = .inr (.inl y) → V E RX0 cX0_layAll 4 none d Q 65 [some (zK 0 0), some (zK 8 v1), some (zI v2), none] [] y := fun y e => he y (he1 _ e)
    clear h hc1 he1 ih
    have h := h1
    clear h1
    unfold fX0_layAll_L31 at h
    refine V_iload_n 32 rfl 3 dX0_layAll_31 rfl rfl ?_
    refine V_aload_n 33 rfl 1 dX0_layAll_32 rfl rfl ?_
    refine V_getr 36 rfl 35 v1 dX0_layAll_33 fl_X0_33 rfl rfl rfl ?_
    refine V_iload_n 37 rfl 2 dX0_layAll_36 rfl rfl ?_
    obtain ⟨hi, h⟩ := zobd h
    refine V_aald 38 rfl 7 (12 * v1 + zn v2) dX0_layAll_37 rfl (by decide) (by decide) rfl rfl hi ?_
    refine V_getr 41 rfl 5 (2 * (12 * v1 + zn v2) + 1) dX0_layAll_38 fl_X0_41 rfl rfl rfl ?_
    refine V_geti 44 rfl dX0_layAll_41 fl_X0_47 rfl ?_
    refine V_icmp_ge 47 65 rfl dX0_layAll_44 (by decide) (fun c => ?_) (fun c => ?_)
    · have h := zpos c h
      exact V_w (zsub_s (zsub_s (zsub_s (zsub_n zsub_0)))) (ke s.2 (zinj h))
    · have h := zneg c h
      refine V_aload_n 48 rfl 0 dX0_layAll_47 rfl rfl ?_
      refine V_aload_n 49 rfl 1 dX0_layAll_48 rfl rfl ?_
      refine V_getr 52 rfl 35 v1 dX0_layAll_49 fl_X0_33 rfl rfl rfl ?_
      refine V_iload_n 53 rfl 2 dX0_layAll_52 rfl rfl ?_
      obtain ⟨hi, h⟩ := zobd h
      refine V_aald 54 rfl 7 (12 * v1 + zn v2) dX0_layAll_53 rfl (by decide) (by decide) rfl rfl hi ?_
      refine V_iload_n 55 rfl 2 dX0_layAll_54 rfl rfl ?_
      refine V_iload_n 56 rfl 3 dX0_layAll_55 rfl rfl ?_
      obtain ⟨x3, h1, h⟩ := zbd h
      refine V_cV 59 rfl 2 [zK 7 (12 * v1 + zn v2), zI v2, zI s.1] [] dX0_layAll_56 cv_X0_50 (ctX0_layTrait (Nat.le_refl 2) h1) (Nat.le_trans (by decide) hd) rfl rfl (Nat.le_of_ble_eq_true rfl) zokn rfl ?_
      refine V_iinc 62 rfl (s.1 + 1) (L' := [some (zK 0 0), some (zK 8 v1), some (zI v2), some (zI (s.1 + 1))]) dX0_layAll_59 rfl rfl (by decide) rfl ?_
      refine V_goto 31 dX0_layAll_62 (by decide) ?_
      exact kc ((s.1 + 1), x3) (zinj h)
theorem wX0_layAll_L10 {E : zE} {d : Nat} (hd : 3 ≤ d) {Q : Option zV → zM → Prop} {v1 : Nat} {n : Nat} {s : (Int32 × zM)} {o : zM ⊕ Empty} (h : zloop (fX0_layAll_L10 v1) n s = some o) (he : ∀ y : zM, o = .inl y → V E RX0 cX0_layAll 4 none d Q 71 [none, none, none, none] [] y) : V E RX0 cX0_layAll 4 none d Q 10 [some (zK 0 0), some (zK 8 v1), some (zI s.1), none] [] s.2 := by
  induction n generalizing s with
  | zero => exact (zloop_0 h).elim
  | succ n ih =>
    obtain ⟨o1, h1, hc1, he1⟩ := zloop_s h
    have kc : ∀ s' : (Int32 × zM), o1 = .inl s' → V E RX0 cX0_layAll 4 none d Q 10 [some (zK 0 0), some (zK 8 v1), some (zI s'.1), none] [] s'.2 := fun s' e => ih (hc1 s' e)
    have ke : ∀ y : zM, o1 = .inr (.inl y) → V E RX0 cX0_layAll 4 none d Q 71 [none, none, none, none] [] y := fun y e => he y (he1 _ e)
    clear h hc1 he1 ih
    have h := h1
    clear h1
    unfold fX0_layAll_L10 at h
    refine V_iload_n 11 rfl 2 dX0_layAll_10 rfl rfl ?_
    refine V_aload_n 12 rfl 1 dX0_layAll_11 rfl rfl ?_
    refine V_geti 15 rfl dX0_layAll_12 fl_X0_27 rfl ?_
    refine V_icmp_ge 18 71 rfl dX0_layAll_15 (by decide) (fun c => ?_) (fun c => ?_)
    · have h := zpos c h
      exact V_w (zsub_n (zsub_n (zsub_n (zsub_s zsub_0)))) (ke s.2 (zinj h))
    · have h := zneg c h
      refine V_aload_n 19 rfl 0 dX0_layAll_18 rfl rfl ?_
      refine V_aload_n 20 rfl 1 dX0_layAll_19 rfl rfl ?_
      refine V_getr 23 rfl 35 v1 dX0_layAll_20 fl_X0_33 rfl rfl rfl ?_
      refine V_iload_n 24 rfl 2 dX0_layAll_23 rfl rfl ?_
      obtain ⟨hi, h⟩ := zobd h
      refine V_aald 25 rfl 7 (12 * v1 + zn s.1) dX0_layAll_24 rfl (by decide) (by decide) rfl rfl hi ?_
      refine V_iload_n 26 rfl 2 dX0_layAll_25 rfl rfl ?_
      obtain ⟨x2, h1, h⟩ := zbd h
      refine V_cV 29 rfl 1 [zK 7 (12 * v1 + zn s.1), zI s.1] [] dX0_layAll_26 cv_X0_37 (ctX0_layOwn (Nat.le_refl 1) h1) (Nat.le_trans (by decide) hd) rfl rfl (Nat.le_of_ble_eq_true rfl) zokn rfl ?_
      refine V_iconst 30 rfl (v := 0) dX0_layAll_29 (by decide) ?_
      refine V_istore_n 31 rfl 3 (L' := [some (zK 0 0), some (zK 8 v1), some (zI s.1), some (zI 0)]) dX0_layAll_30 rfl (by decide) rfl ?_
      obtain ⟨o6, h1, h⟩ := zbd h
      refine wX0_layAll_L31 hd h1 (fun y4 e => ?_)
      have h := zcl_ e h
      refine V_iinc 68 rfl (s.1 + 1) (L' := [some (zK 0 0), some (zK 8 v1), some (zI (s.1 + 1)), none]) dX0_layAll_65 rfl rfl (by decide) rfl ?_
      refine V_goto 10 dX0_layAll_68 (by decide) ?_
      exact kc ((s.1 + 1), y4) (zinj h)
theorem wX0_layAll {E : zE} {d : Nat} (hd : 3 ≤ d) {Q : Option zV → zM → Prop} {v1 : Nat} {mm : zM} {o : zM} (h : fX0_layAll v1 mm = some o) (hQ : ∀ r, o = r → Q none r) : V E RX0 cX0_layAll 4 none d Q 0 [some (zK 0 0), some (zK 8 v1), none, none] [] mm := by
  unfold fX0_layAll at h
  refine V_aload_n 1 rfl 0 dX0_layAll_0 rfl rfl ?_
  refine V_getr 4 rfl 11 0 dX0_layAll_1 fl_X0_9 rfl rfl rfl ?_
  refine V_iconst 5 rfl (v := 0) dX0_layAll_4 (by decide) ?_
  obtain ⟨x1, h1, h⟩ := zbd h
  refine V_cS 8 rfl 0 [zK 11 0, zI 0] [] dX0_layAll_5 cs_X0_21 (ctJ7_fill_11 (Nat.le_refl 0) h1) (Nat.le_trans (by decide) hd) rfl rfl (Nat.le_of_ble_eq_true rfl) zokn rfl ?_
  refine V_iconst 9 rfl (v := 0) dX0_layAll_8 (by decide) ?_
  refine V_istore_n 10 rfl 2 (L' := [some (zK 0 0), some (zK 8 v1), some (zI 0), none]) dX0_layAll_9 rfl (by decide) rfl ?_
  obtain ⟨o9, h1, h⟩ := zbd h
  refine wX0_layAll_L10 hd h1 (fun y7 e => ?_)
  have h := zcl_ e h
  exact V_vret dX0_layAll_71 rfl (hQ y7 (zinj h))
theorem ctX0_layAll {E : zE} {d : Nat} (hd : 3 ≤ d) {v1 : Nat} {mm : zM} {o : zM} (h : fX0_layAll v1 mm = some o) : zOC E yX0_layAll cX0_layAll 4 none d [zK 0 0, zK 8 v1] mm none o :=
  zCT_of (by decide) (Nat.le_of_ble_eq_true rfl) (zk_k (zk_k zk_0)) rfl (wX0_layAll hd h (fun r e => ⟨rfl, by rw [e]⟩))
def fX2_gatherOver_L7 (v1 : Int32) (v2 : Nat) (mm : zM) (s : (Int32 × Int32)) : Option ((Int32 × Int32) ⊕ (Int32 ⊕ Empty)) :=
  if (gi mm 5 v2 1) ≤ s.2 then (some (.inr (.inl s.1))) else (zob (zin s.2 4) (zob (zin ((gi mm 30 v2 (zn s.2))) 12) (some (.inl ((s.1 ||| ((gi mm 22 0 (zn ((gi mm 30 v2 (zn s.2))))))), (s.2 + 1))))))
def fX2_gatherOver (v1 : Int32) (v2 : Nat) (mm : zM) : Option zM :=
  (zloop (fX2_gatherOver_L7 v1 v2 mm) zF ((1 <<< (v1 &&& 31)), 0)).bind (fun o3 => zcase o3 (fun y1 => zob (zin v1 12) (some ((wi mm 22 0 (zn v1) y1)))) (fun r2 => r2.elim))
theorem wX2_gatherOver_L7 {E : zE} {d : Nat} (hd : 0 ≤ d) {Q : Option zV → zM → Prop} {v1 : Int32} {v2 : Nat} {mm : zM} {n : Nat} {s : (Int32 × Int32)} {o : Int32 ⊕ Empty} (h : zloop (fX2_gatherOver_L7 v1 v2 mm) n s = some o) (he : ∀ y : Int32, o = .inl y → V E RX2 cX2_gatherOver 5 none d Q 37 [some (zK 2 0), some (zI v1), none, some (zI y), none] [] mm) : V E RX2 cX2_gatherOver 5 none d Q 7 [some (zK 2 0), some (zI v1), some (zK 5 v2), some (zI s.1), some (zI s.2)] [] mm := by
  induction n generalizing s with
  | zero => exact (zloop_0 h).elim
  | succ n ih =>
    obtain ⟨o1, h1, hc1, he1⟩ := zloop_s h
    have kc : ∀ s' : (Int32 × Int32), o1 = .inl s' → V E RX2 cX2_gatherOver 5 none d Q 7 [some (zK 2 0), some (zI v1), some (zK 5 v2), some (zI s'.1), some (zI s'.2)] [] mm := fun s' e => ih (hc1 s' e)
    have ke : ∀ y : Int32, o1 = .inr (.inl y) → V E RX2 cX2_gatherOver 5 none d Q 37 [some (zK 2 0), some (zI v1), none, some (zI y), none] [] mm := fun y e => he y (he1 _ e)
    clear h hc1 he1 ih
    have h := h1
    clear h1
    unfold fX2_gatherOver_L7 at h
    refine V_iload 9 rfl dX2_gatherOver_7 rfl ?_
    refine V_aload_n 10 rfl 2 dX2_gatherOver_9 rfl rfl ?_
    refine V_geti 13 rfl dX2_gatherOver_10 fl_X2_73 rfl ?_
    refine V_icmp_ge 16 37 rfl dX2_gatherOver_13 (by decide) (fun c => ?_) (fun c => ?_)
    · have h := zpos c h
      exact V_w (zsub_s (zsub_s (zsub_n (zsub_s (zsub_n zsub_0))))) (ke s.1 (zinj h))
    · have h := zneg c h
      refine V_iload_n 17 rfl 3 dX2_gatherOver_16 rfl rfl ?_
      refine V_aload_n 18 rfl 0 dX2_gatherOver_17 rfl rfl ?_
      refine V_getr 21 rfl 22 0 dX2_gatherOver_18 fl_X2_26 rfl rfl rfl ?_
      refine V_aload_n 22 rfl 2 dX2_gatherOver_21 rfl rfl ?_
      refine V_getr 25 rfl 30 v2 dX2_gatherOver_22 fl_X2_76 rfl rfl rfl ?_
      refine V_iload 27 rfl dX2_gatherOver_25 rfl ?_
      obtain ⟨hi, h⟩ := zobd h
      refine V_iald 28 rfl dX2_gatherOver_27 rfl hi ?_
      obtain ⟨hi, h⟩ := zobd h
      refine V_iald 29 rfl dX2_gatherOver_28 rfl hi ?_
      refine V_ior 30 rfl dX2_gatherOver_29 ?_
      refine V_istore_n 31 rfl 3 (L' := [some (zK 2 0), some (zI v1), some (zK 5 v2), some (zI (s.1 ||| ((gi mm 22 0 (zn ((gi mm 30 v2 (zn s.2)))))))), some (zI s.2)]) dX2_gatherOver_30 rfl (by decide) rfl ?_
      refine V_iinc 34 rfl (s.2 + 1) (L' := [some (zK 2 0), some (zI v1), some (zK 5 v2), some (zI (s.1 ||| ((gi mm 22 0 (zn ((gi mm 30 v2 (zn s.2)))))))), some (zI (s.2 + 1))]) dX2_gatherOver_31 rfl rfl (by decide) rfl ?_
      refine V_goto 7 dX2_gatherOver_34 (by decide) ?_
      exact kc ((s.1 ||| ((gi mm 22 0 (zn ((gi mm 30 v2 (zn s.2))))))), (s.2 + 1)) (zinj h)
theorem wX2_gatherOver {E : zE} {d : Nat} (hd : 0 ≤ d) {Q : Option zV → zM → Prop} {v1 : Int32} {v2 : Nat} {mm : zM} {o : zM} (h : fX2_gatherOver v1 v2 mm = some o) (hQ : ∀ r, o = r → Q none r) : V E RX2 cX2_gatherOver 5 none d Q 0 [some (zK 2 0), some (zI v1), some (zK 5 v2), none, none] [] mm := by
  unfold fX2_gatherOver at h
  refine V_iconst 1 rfl (v := 1) dX2_gatherOver_0 (by decide) ?_
  refine V_iload_n 2 rfl 1 dX2_gatherOver_1 rfl rfl ?_
  refine V_ishl 3 rfl dX2_gatherOver_2 ?_
  refine V_istore_n 4 rfl 3 (L' := [some (zK 2 0), some (zI v1), some (zK 5 v2), some (zI (1 <<< (v1 &&& 31))), none]) dX2_gatherOver_3 rfl (by decide) rfl ?_
  refine V_iconst 5 rfl (v := 0) dX2_gatherOver_4 (by decide) ?_
  refine V_istore 7 rfl (L' := [some (zK 2 0), some (zI v1), some (zK 5 v2), some (zI (1 <<< (v1 &&& 31))), some (zI 0)]) dX2_gatherOver_5 (by decide) rfl ?_
  obtain ⟨o3, h1, h⟩ := zbd h
  refine wX2_gatherOver_L7 hd h1 (fun y1 e => ?_)
  have h := zcl_ e h
  refine V_aload_n 38 rfl 0 dX2_gatherOver_37 rfl rfl ?_
  refine V_getr 41 rfl 22 0 dX2_gatherOver_38 fl_X2_26 rfl rfl rfl ?_
  refine V_iload_n 42 rfl 1 dX2_gatherOver_41 rfl rfl ?_
  refine V_iload_n 43 rfl 3 dX2_gatherOver_42 rfl rfl ?_
  obtain ⟨hi, h⟩ := zobd h
  refine V_iast 44 rfl dX2_gatherOver_43 rfl hi ?_
  exact V_vret dX2_gatherOver_44 rfl (hQ ((wi mm 22 0 (zn v1) y1)) (zinj h))
theorem ctX2_gatherOver {E : zE} {d : Nat} (hd : 0 ≤ d) {v1 : Int32} {v2 : Nat} {mm : zM} {o : zM} (h : fX2_gatherOver v1 v2 mm = some o) : zOC E yX2_gatherOver cX2_gatherOver 5 none d [zK 2 0, zI v1, zK 5 v2] mm none o :=
  zCT_of (by decide) (Nat.le_of_ble_eq_true rfl) (zk_k (zk_i (zk_k zk_0))) rfl (wX2_gatherOver hd h (fun r e => ⟨rfl, by rw [e]⟩))
def fX2_loadRows_L12 (v1 : Nat) (s : (Int32 × zM)) : Option ((Int32 × zM) ⊕ (zM ⊕ (Int32 × zM))) :=
  if (gi s.2 5 v1 1) ≤ s.1 then (some (.inr (.inl s.2))) else (zob (zin s.1 4) (zob (zin ((gi s.2 30 v1 (zn s.1))) 12) (if (gi s.2 18 0 (zn ((gi s.2 30 v1 (zn s.1))))) = 0 then (some (.inr (.inr ((0, s.2))))) else (zob (zin ((gi s.2 30 v1 (zn s.1))) 12) (zob (zin s.1 5) (zob (zin ((gi s.2 30 v1 (zn s.1))) 12) (zob (zcin 0 0 ((gi s.2 18 0 (zn ((gi s.2 30 v1 (zn s.1)))))) 12 12) (zob (zin s.1 5) (zob (zin ((gi s.2 30 v1 (zn s.1))) 12) (zob (zin s.1 5) (some (.inl ((s.1 + 1), (wi ((wi ((zcp s.2 17 (zn ((gi s.2 30 v1 (zn s.1)))) (zn 0) 24 (zn s.1) (zn 0) (zn ((gi s.2 18 0 (zn ((gi s.2 30 v1 (zn s.1))))))))) 25 0 (zn s.1) 0)) 26 0 (zn s.1) ((gi ((wi ((zcp s.2 17 (zn ((gi s.2 30 v1 (zn s.1)))) (zn 0) 24 (zn s.1) (zn 0) (zn ((gi s.2 18 0 (zn ((gi s.2 30 v1 (zn s.1))))))))) 25 0 (zn s.1) 0)) 18 0 (zn ((gi s.2 30 v1 (zn s.1))))))))))))))))))))
def fX2_loadRows (v1 : Nat) (mm : zM) : Option (Int32 × zM) :=
  (zloop (fX2_loadRows_L12 v1) zF (0, (wi mm 2 0 9 ((((gi mm 5 v1 1)) + 1))))).bind (fun o3 => zcase o3 (fun y1 => zob (zin ((gi y1 5 v1 1)) 5) (zob (zcin 0 0 ((gi y1 5 v1 1)) 4 12) (zob (zin ((gi ((zcp y1 30 v1 (zn 0) 24 (zn ((gi y1 5 v1 1))) (zn 0) (zn ((gi y1 5 v1 1))))) 5 v1 1)) 5) (zob (zin ((gi ((wi ((zcp y1 30 v1 (zn 0) 24 (zn ((gi y1 5 v1 1))) (zn 0) (zn ((gi y1 5 v1 1))))) 25 0 (zn ((gi ((zcp y1 30 v1 (zn 0) 24 (zn ((gi y1 5 v1 1))) (zn 0) (zn ((gi y1 5 v1 1))))) 5 v1 1))) 0)) 5 v1 1)) 5) (some ((1, (wi ((wi ((zcp y1 30 v1 (zn 0) 24 (zn ((gi y1 5 v1 1))) (zn 0) (zn ((gi y1 5 v1 1))))) 25 0 (zn ((gi ((zcp y1 30 v1 (zn 0) 24 (zn ((gi y1 5 v1 1))) (zn 0) (zn ((gi y1 5 v1 1))))) 5 v1 1))) 0)) 26 0 (zn ((gi ((wi ((zcp y1 30 v1 (zn 0) 24 (zn ((gi y1 5 v1 1))) (zn 0) (zn ((gi y1 5 v1 1))))) 25 0 (zn ((gi ((zcp y1 30 v1 (zn 0) 24 (zn ((gi y1 5 v1 1))) (zn 0) (zn ((gi y1 5 v1 1))))) 5 v1 1))) 0)) 5 v1 1))) ((gi ((wi ((zcp y1 30 v1 (zn 0) 24 (zn ((gi y1 5 v1 1))) (zn 0) (zn ((gi y1 5 v1 1))))) 25 0 (zn ((gi ((zcp y1 30 v1 (zn 0) 24 (zn ((gi y1 5 v1 1))) (zn 0) (zn ((gi y1 5 v1 1))))) 5 v1 1))) 0)) 5 v1 1)))))))))) (fun r2 => some r2))
theorem wX2_loadRows_L12 {E : zE} {d : Nat} (hd : 1 ≤ d) {Q : Option zV → zM → Prop} {v1 : Nat} {n : Nat} {s : (Int32 × zM)} {o : zM ⊕ (Int32 × zM)} (h : zloop (fX2_loadRows_L12 v1) n s = some o) (he : ∀ y : zM, o = .inl y → V E RX2 cX2_loadRows 4 (some .boolean) d Q 86 [some (zK 2 0), some (zK 5 v1), none, none] [] y) (hr : ∀ r : (Int32 × zM), o = .inr r → Q (some (zI r.1)) r.2) : V E RX2 cX2_loadRows 4 (some .boolean) d Q 12 [some (zK 2 0), some (zK 5 v1), some (zI s.1), none] [] s.2 := by
  induction n generalizing s with
  | zero => exact (zloop_0 h).elim
  | succ n ih =>
    obtain ⟨o1, h1, hc1, he1⟩ := zloop_s h
    have kc : ∀ s' : (Int32 × zM), o1 = .inl s' → V E RX2 cX2_loadRows 4 (some .boolean) d Q 12 [some (zK 2 0), some (zK 5 v1), some (zI s'.1), none] [] s'.2 := fun s' e => ih (hc1 s' e)
    have ke : ∀ y : zM, o1 = .inr (.inl y) → V E RX2 cX2_loadRows 4 (some .boolean) d Q 86 [some (zK 2 0), some (zK 5 v1), none, none] [] y := fun y e => he y (he1 _ e)
    have kr : ∀ r : (Int32 × zM), o1 = .inr (.inr r) → Q (some (zI r.1)) r.2 := fun r e => hr r (he1 _ e)
    clear h hc1 he1 ih
    have h := h1
    clear h1
    unfold fX2_loadRows_L12 at h
    refine V_iload_n 13 rfl 2 dX2_loadRows_12 rfl rfl ?_
    refine V_aload_n 14 rfl 1 dX2_loadRows_13 rfl rfl ?_
    refine V_geti 17 rfl dX2_loadRows_14 fl_X2_73 rfl ?_
    refine V_icmp_ge 20 86 rfl dX2_loadRows_17 (by decide) (fun c => ?_) (fun c => ?_)
    · have h := zpos c h
      exact V_w (zsub_s (zsub_s (zsub_n (zsub_s zsub_0)))) (ke s.2 (zinj h))
    · have h := zneg c h
      refine V_aload_n 21 rfl 1 dX2_loadRows_20 rfl rfl ?_
      refine V_getr 24 rfl 30 v1 dX2_loadRows_21 fl_X2_76 rfl rfl rfl ?_
      refine V_iload_n 25 rfl 2 dX2_loadRows_24 rfl rfl ?_
      obtain ⟨hi, h⟩ := zobd h
      refine V_iald 26 rfl dX2_loadRows_25 rfl hi ?_
      refine V_istore_n 27 rfl 3 (L' := [some (zK 2 0), some (zK 5 v1), some (zI s.1), some (zI (gi s.2 30 v1 (zn s.1)))]) dX2_loadRows_26 rfl (by decide) rfl ?_
      refine V_aload_n 28 rfl 0 dX2_loadRows_27 rfl rfl ?_
      refine V_getr 31 rfl 18 0 dX2_loadRows_28 fl_X2_16 rfl rfl rfl ?_
      refine V_iload_n 32 rfl 3 dX2_loadRows_31 rfl rfl ?_
      obtain ⟨hi, h⟩ := zobd h
      refine V_iald 33 rfl dX2_loadRows_32 rfl hi ?_
      refine V_if_ne 36 38 rfl dX2_loadRows_33 (by decide) (fun c => ?_) (fun c => ?_)
      · have h := zneg c h
        refine V_aload_n 39 rfl 0 dX2_loadRows_38 rfl rfl ?_
        refine V_getr 42 rfl 16 0 dX2_loadRows_39 fl_X2_11 rfl rfl rfl ?_
        refine V_iload_n 43 rfl 3 dX2_loadRows_42 rfl rfl ?_
        obtain ⟨hi, h⟩ := zobd h
        refine V_aald 44 rfl 17 (zn ((gi s.2 30 v1 (zn s.1)))) dX2_loadRows_43 rfl (by decide) (by decide) rfl rfl hi ?_
        refine V_iconst 45 rfl (v := 0) dX2_loadRows_44 (by decide) ?_
        refine V_aload_n 46 rfl 0 dX2_loadRows_45 rfl rfl ?_
        refine V_getr 49 rfl 23 0 dX2_loadRows_46 fl_X2_29 rfl rfl rfl ?_
        refine V_iload_n 50 rfl 2 dX2_loadRows_49 rfl rfl ?_
        obtain ⟨hi, h⟩ := zobd h
        refine V_aald 51 rfl 24 (zn s.1) dX2_loadRows_50 rfl (by decide) (by decide) rfl rfl hi ?_
        refine V_iconst 52 rfl (v := 0) dX2_loadRows_51 (by decide) ?_
        refine V_aload_n 53 rfl 0 dX2_loadRows_52 rfl rfl ?_
        refine V_getr 56 rfl 18 0 dX2_loadRows_53 fl_X2_16 rfl rfl rfl ?_
        refine V_iload_n 57 rfl 3 dX2_loadRows_56 rfl rfl ?_
        obtain ⟨hi, h⟩ := zobd h
        refine V_iald 58 rfl dX2_loadRows_57 rfl hi ?_
        obtain ⟨hi, h⟩ := zobd h
        refine V_copy 61 rfl dX2_loadRows_58 ca_X2_82 rfl rfl hi (Nat.le_trans (by decide) hd) (Nat.le_of_ble_eq_true rfl) ?_
        refine V_aload_n 62 rfl 0 dX2_loadRows_61 rfl rfl ?_
        refine V_getr 65 rfl 25 0 dX2_loadRows_62 fl_X2_32 rfl rfl rfl ?_
        refine V_iload_n 66 rfl 2 dX2_loadRows_65 rfl rfl ?_
        refine V_iconst 67 rfl (v := 0) dX2_loadRows_66 (by decide) ?_
        obtain ⟨hi, h⟩ := zobd h
        refine V_iast 68 rfl dX2_loadRows_67 rfl hi ?_
        refine V_aload_n 69 rfl 0 dX2_loadRows_68 rfl rfl ?_
        refine V_getr 72 rfl 26 0 dX2_loadRows_69 fl_X2_35 rfl rfl rfl ?_
        refine V_iload_n 73 rfl 2 dX2_loadRows_72 rfl rfl ?_
        refine V_aload_n 74 rfl 0 dX2_loadRows_73 rfl rfl ?_
        refine V_getr 77 rfl 18 0 dX2_loadRows_74 fl_X2_16 rfl rfl rfl ?_
        refine V_iload_n 78 rfl 3 dX2_loadRows_77 rfl rfl ?_
        obtain ⟨hi, h⟩ := zobd h
        refine V_iald 79 rfl dX2_loadRows_78 rfl hi ?_
        obtain ⟨hi, h⟩ := zobd h
        refine V_iast 80 rfl dX2_loadRows_79 rfl hi ?_
        refine V_iinc 83 rfl (s.1 + 1) (L' := [some (zK 2 0), some (zK 5 v1), some (zI (s.1 + 1)), some (zI (gi s.2 30 v1 (zn s.1)))]) dX2_loadRows_80 rfl rfl (by decide) rfl ?_
        refine V_goto 12 dX2_loadRows_83 (by decide) ?_
        exact V_w (zsub_s (zsub_s (zsub_s (zsub_n zsub_0)))) (kc ((s.1 + 1), (wi ((wi ((zcp s.2 17 (zn ((gi s.2 30 v1 (zn s.1)))) (zn 0) 24 (zn s.1) (zn 0) (zn ((gi s.2 18 0 (zn ((gi s.2 30 v1 (zn s.1))))))))) 25 0 (zn s.1) 0)) 26 0 (zn s.1) ((gi ((wi ((zcp s.2 17 (zn ((gi s.2 30 v1 (zn s.1)))) (zn 0) 24 (zn s.1) (zn 0) (zn ((gi s.2 18 0 (zn ((gi s.2 30 v1 (zn s.1))))))))) 25 0 (zn s.1) 0)) 18 0 (zn ((gi s.2 30 v1 (zn s.1)))))))) (zinj h))
      · have h := zpos c h
        refine V_iconst 37 rfl (v := 0) dX2_loadRows_36 (by decide) ?_
        exact V_zret dX2_loadRows_37 rfl rfl (kr ((0, s.2)) (zinj h))
theorem wX2_loadRows {E : zE} {d : Nat} (hd : 1 ≤ d) {Q : Option zV → zM → Prop} {v1 : Nat} {mm : zM} {o : (Int32 × zM)} (h : fX2_loadRows v1 mm = some o) (hQ : ∀ r, o = r → Q (some (zI r.1)) r.2) : V E RX2 cX2_loadRows 4 (some .boolean) d Q 0 [some (zK 2 0), some (zK 5 v1), none, none] [] mm := by
  unfold fX2_loadRows at h
  refine V_aload_n 1 rfl 0 dX2_loadRows_0 rfl rfl ?_
  refine V_aload_n 2 rfl 1 dX2_loadRows_1 rfl rfl ?_
  refine V_geti 5 rfl dX2_loadRows_2 fl_X2_73 rfl ?_
  refine V_iconst 6 rfl (v := 1) dX2_loadRows_5 (by decide) ?_
  refine V_iadd 7 rfl dX2_loadRows_6 ?_
  refine V_puti 10 rfl dX2_loadRows_7 fw_X2_79 rfl rfl rfl ?_
  refine V_iconst 11 rfl (v := 0) dX2_loadRows_10 (by decide) ?_
  refine V_istore_n 12 rfl 2 (L' := [some (zK 2 0), some (zK 5 v1), some (zI 0), none]) dX2_loadRows_11 rfl (by decide) rfl ?_
  obtain ⟨o3, h1, h⟩ := zbd h
  refine wX2_loadRows_L12 hd h1 (fun y1 e => ?_) (fun r e => by have h := zcr_ e h; exact hQ r (zinj h))
  have h := zcl_ e h
  refine V_aload_n 87 rfl 1 dX2_loadRows_86 rfl rfl ?_
  refine V_getr 90 rfl 30 v1 dX2_loadRows_87 fl_X2_76 rfl rfl rfl ?_
  refine V_iconst 91 rfl (v := 0) dX2_loadRows_90 (by decide) ?_
  refine V_aload_n 92 rfl 0 dX2_loadRows_91 rfl rfl ?_
  refine V_getr 95 rfl 23 0 dX2_loadRows_92 fl_X2_29 rfl rfl rfl ?_
  refine V_aload_n 96 rfl 1 dX2_loadRows_95 rfl rfl ?_
  refine V_geti 99 rfl dX2_loadRows_96 fl_X2_73 rfl ?_
  obtain ⟨hi, h⟩ := zobd h
  refine V_aald 100 rfl 24 (zn ((gi y1 5 v1 1))) dX2_loadRows_99 rfl (by decide) (by decide) rfl rfl hi ?_
  refine V_iconst 101 rfl (v := 0) dX2_loadRows_100 (by decide) ?_
  refine V_aload_n 102 rfl 1 dX2_loadRows_101 rfl rfl ?_
  refine V_geti 105 rfl dX2_loadRows_102 fl_X2_73 rfl ?_
  obtain ⟨hi, h⟩ := zobd h
  refine V_copy 108 rfl dX2_loadRows_105 ca_X2_82 rfl rfl hi (Nat.le_trans (by decide) hd) (Nat.le_of_ble_eq_true rfl) ?_
  refine V_aload_n 109 rfl 0 dX2_loadRows_108 rfl rfl ?_
  refine V_getr 112 rfl 25 0 dX2_loadRows_109 fl_X2_32 rfl rfl rfl ?_
  refine V_aload_n 113 rfl 1 dX2_loadRows_112 rfl rfl ?_
  refine V_geti 116 rfl dX2_loadRows_113 fl_X2_73 rfl ?_
  refine V_iconst 117 rfl (v := 0) dX2_loadRows_116 (by decide) ?_
  obtain ⟨hi, h⟩ := zobd h
  refine V_iast 118 rfl dX2_loadRows_117 rfl hi ?_
  refine V_aload_n 119 rfl 0 dX2_loadRows_118 rfl rfl ?_
  refine V_getr 122 rfl 26 0 dX2_loadRows_119 fl_X2_35 rfl rfl rfl ?_
  refine V_aload_n 123 rfl 1 dX2_loadRows_122 rfl rfl ?_
  refine V_geti 126 rfl dX2_loadRows_123 fl_X2_73 rfl ?_
  refine V_aload_n 127 rfl 1 dX2_loadRows_126 rfl rfl ?_
  refine V_geti 130 rfl dX2_loadRows_127 fl_X2_73 rfl ?_
  obtain ⟨hi, h⟩ := zobd h
  refine V_iast 131 rfl dX2_loadRows_130 rfl hi ?_
  refine V_iconst 132 rfl (v := 1) dX2_loadRows_131 (by decide) ?_
  exact V_zret dX2_loadRows_132 rfl rfl (hQ ((1, (wi ((wi ((zcp y1 30 v1 (zn 0) 24 (zn ((gi y1 5 v1 1))) (zn 0) (zn ((gi y1 5 v1 1))))) 25 0 (zn ((gi ((zcp y1 30 v1 (zn 0) 24 (zn ((gi y1 5 v1 1))) (zn 0) (zn ((gi y1 5 v1 1))))) 5 v1 1))) 0)) 26 0 (zn ((gi ((wi ((zcp y1 30 v1 (zn 0) 24 (zn ((gi y1 5 v1 1))) (zn 0) (zn ((gi y1 5 v1 1))))) 25 0 (zn ((gi ((zcp y1 30 v1 (zn 0) 24 (zn ((gi y1 5 v1 1))) (zn 0) (zn ((gi y1 5 v1 1))))) 5 v1 1))) 0)) 5 v1 1))) ((gi ((wi ((zcp y1 30 v1 (zn 0) 24 (zn ((gi y1 5 v1 1))) (zn 0) (zn ((gi y1 5 v1 1))))) 25 0 (zn ((gi ((zcp y1 30 v1 (zn 0) 24 (zn ((gi y1 5 v1 1))) (zn 0) (zn ((gi y1 5 v1 1))))) 5 v1 1))) 0)) 5 v1 1))))) (zinj h))
theorem ctX2_loadRows {E : zE} {d : Nat} (hd : 1 ≤ d) {v1 : Nat} {mm : zM} {o : (Int32 × zM)} (h : fX2_loadRows v1 mm = some o) : zOC E yX2_loadRows cX2_loadRows 4 (some .boolean) d [zK 2 0, zK 5 v1] mm (some (zI o.1)) o.2 :=
  zCT_of (by decide) (Nat.le_of_ble_eq_true rfl) (zk_k (zk_k zk_0)) rfl (wX2_loadRows hd h (fun r e => ⟨by rw [e], by rw [e]⟩))
def fX2_rowWithInTail_L19 (v1 : Int32) (v2 : Int32) (mm : zM) (s : Int32) : Option (Int32 ⊕ (Unit ⊕ Int32)) :=
  zob (zin v2 5) (if (gi mm 26 0 (zn v2)) ≤ s then (some (.inr (.inl ()))) else (zob (zin v2 5) (zob (zin s 12) (if (gi mm 24 (zn v2) (zn s)) = v1 then (some (.inr (.inr v2))) else (some (.inl (s + 1)))))))
def fX2_rowWithInTail_L2 (v1 : Int32) (mm : zM) (s : Int32) : Option (Int32 ⊕ (Unit ⊕ Int32)) :=
  if (gi mm 2 0 9) ≤ s then (some (.inr (.inl ()))) else (zob (zin s 5) ((zloop (fX2_rowWithInTail_L19 v1 s mm) zF (((gi mm 25 0 (zn s))) + 1)).bind (fun o3 => zcase o3 (fun y1 => some (.inl (s + 1))) (fun r2 => some (.inr (.inr r2))))))
def fX2_rowWithInTail (v1 : Int32) (mm : zM) : Option Int32 :=
  (zloop (fX2_rowWithInTail_L2 v1 mm) zF 0).bind (fun o6 => zcase o6 (fun y4 => some ((-1))) (fun r5 => some r5))
theorem wX2_rowWithInTail_L19 {E : zE} {d : Nat} (hd : 0 ≤ d) {Q : Option zV → zM → Prop} {v1 : Int32} {v2 : Int32} {mm : zM} {n : Nat} {s : Int32} {o : Unit ⊕ Int32} (h : zloop (fX2_rowWithInTail_L19 v1 v2 mm) n s = some o) (he : ∀ y : Unit, o = .inl y → V E RX2 cX2_rowWithInTail 4 (some .int) d Q 49 [some (zK 2 0), some (zI v1), some (zI v2), none] [] mm) (hr : ∀ r : Int32, o = .inr r → Q (some (zI r)) mm) : V E RX2 cX2_rowWithInTail 4 (some .int) d Q 19 [some (zK 2 0), some (zI v1), some (zI v2), some (zI s)] [] mm := by
  induction n generalizing s with
  | zero => exact (zloop_0 h).elim
  | succ n ih =>
    obtain ⟨o1, h1, hc1, he1⟩ := zloop_s h
    have kc : ∀ s' : Int32, o1 = .inl s' → V E RX2 cX2_rowWithInTail 4 (some .int) d Q 19 [some (zK 2 0), some (zI v1), some (zI v2), some (zI s')] [] mm := fun s' e => ih (hc1 s' e)
    have ke : ∀ y : Unit, o1 = .inr (.inl y) → V E RX2 cX2_rowWithInTail 4 (some .int) d Q 49 [some (zK 2 0), some (zI v1), some (zI v2), none] [] mm := fun y e => he y (he1 _ e)
    have kr : ∀ r : Int32, o1 = .inr (.inr r) → Q (some (zI r)) mm := fun r e => hr r (he1 _ e)
    clear h hc1 he1 ih
    have h := h1
    clear h1
    unfold fX2_rowWithInTail_L19 at h
    refine V_iload_n 20 rfl 3 dX2_rowWithInTail_19 rfl rfl ?_
    refine V_aload_n 21 rfl 0 dX2_rowWithInTail_20 rfl rfl ?_
    refine V_getr 24 rfl 26 0 dX2_rowWithInTail_21 fl_X2_35 rfl rfl rfl ?_
    refine V_iload_n 25 rfl 2 dX2_rowWithInTail_24 rfl rfl ?_
    obtain ⟨hi, h⟩ := zobd h
    refine V_iald 26 rfl dX2_rowWithInTail_25 rfl hi ?_
    refine V_icmp_ge 29 49 rfl dX2_rowWithInTail_26 (by decide) (fun c => ?_) (fun c => ?_)
    · have h := zpos c h
      exact V_w (zsub_s (zsub_s (zsub_s (zsub_n zsub_0)))) (ke () (zinj h))
    · have h := zneg c h
      refine V_aload_n 30 rfl 0 dX2_rowWithInTail_29 rfl rfl ?_
      refine V_getr 33 rfl 23 0 dX2_rowWithInTail_30 fl_X2_29 rfl rfl rfl ?_
      refine V_iload_n 34 rfl 2 dX2_rowWithInTail_33 rfl rfl ?_
      obtain ⟨hi, h⟩ := zobd h
      refine V_aald 35 rfl 24 (zn v2) dX2_rowWithInTail_34 rfl (by decide) (by decide) rfl rfl hi ?_
      refine V_iload_n 36 rfl 3 dX2_rowWithInTail_35 rfl rfl ?_
      obtain ⟨hi, h⟩ := zobd h
      refine V_iald 37 rfl dX2_rowWithInTail_36 rfl hi ?_
      refine V_iload_n 38 rfl 1 dX2_rowWithInTail_37 rfl rfl ?_
      refine V_icmp_ne 41 43 rfl dX2_rowWithInTail_38 (by decide) (fun c => ?_) (fun c => ?_)
      · have h := zneg c h
        refine V_iinc 46 rfl (s + 1) (L' := [some (zK 2 0), some (zI v1), some (zI v2), some (zI (s + 1))]) dX2_rowWithInTail_43 rfl rfl (by decide) rfl ?_
        refine V_goto 19 dX2_rowWithInTail_46 (by decide) ?_
        exact kc (s + 1) (zinj h)
      · have h := zpos c h
        refine V_iload_n 42 rfl 2 dX2_rowWithInTail_41 rfl rfl ?_
        exact V_iret dX2_rowWithInTail_42 rfl (kr v2 (zinj h))
theorem wX2_rowWithInTail_L2 {E : zE} {d : Nat} (hd : 0 ≤ d) {Q : Option zV → zM → Prop} {v1 : Int32} {mm : zM} {n : Nat} {s : Int32} {o : Unit ⊕ Int32} (h : zloop (fX2_rowWithInTail_L2 v1 mm) n s = some o) (he : ∀ y : Unit, o = .inl y → V E RX2 cX2_rowWithInTail 4 (some .int) d Q 55 [none, none, none, none] [] mm) (hr : ∀ r : Int32, o = .inr r → Q (some (zI r)) mm) : V E RX2 cX2_rowWithInTail 4 (some .int) d Q 2 [some (zK 2 0), some (zI v1), some (zI s), none] [] mm := by
  induction n generalizing s with
  | zero => exact (zloop_0 h).elim
  | succ n ih =>
    obtain ⟨o1, h1, hc1, he1⟩ := zloop_s h
    have kc : ∀ s' : Int32, o1 = .inl s' → V E RX2 cX2_rowWithInTail 4 (some .int) d Q 2 [some (zK 2 0), some (zI v1), some (zI s'), none] [] mm := fun s' e => ih (hc1 s' e)
    have ke : ∀ y : Unit, o1 = .inr (.inl y) → V E RX2 cX2_rowWithInTail 4 (some .int) d Q 55 [none, none, none, none] [] mm := fun y e => he y (he1 _ e)
    have kr : ∀ r : Int32, o1 = .inr (.inr r) → Q (some (zI r)) mm := fun r e => hr r (he1 _ e)
    clear h hc1 he1 ih
    have h := h1
    clear h1
    unfold fX2_rowWithInTail_L2 at h
    refine V_iload_n 3 rfl 2 dX2_rowWithInTail_2 rfl rfl ?_
    refine V_aload_n 4 rfl 0 dX2_rowWithInTail_3 rfl rfl ?_
    refine V_geti 7 rfl dX2_rowWithInTail_4 fl_X2_79 rfl ?_
    refine V_icmp_ge 10 55 rfl dX2_rowWithInTail_7 (by decide) (fun c => ?_) (fun c => ?_)
    · have h := zpos c h
      exact V_w (zsub_n (zsub_n (zsub_n (zsub_s zsub_0)))) (ke () (zinj h))
    · have h := zneg c h
      refine V_aload_n 11 rfl 0 dX2_rowWithInTail_10 rfl rfl ?_
      refine V_getr 14 rfl 25 0 dX2_rowWithInTail_11 fl_X2_32 rfl rfl rfl ?_
      refine V_iload_n 15 rfl 2 dX2_rowWithInTail_14 rfl rfl ?_
      obtain ⟨hi, h⟩ := zobd h
      refine V_iald 16 rfl dX2_rowWithInTail_15 rfl hi ?_
      refine V_iconst 17 rfl (v := 1) dX2_rowWithInTail_16 (by decide) ?_
      refine V_iadd 18 rfl dX2_rowWithInTail_17 ?_
      refine V_istore_n 19 rfl 3 (L' := [some (zK 2 0), some (zI v1), some (zI s), some (zI (((gi mm 25 0 (zn s))) + 1))]) dX2_rowWithInTail_18 rfl (by decide) rfl ?_
      obtain ⟨o3, h1, h⟩ := zbd h
      refine wX2_rowWithInTail_L19 hd h1 (fun y1 e => ?_) (fun r e => by have h := zcr_ e h; exact kr r (zinj h))
      have h := zcl_ e h
      refine V_iinc 52 rfl (s + 1) (L' := [some (zK 2 0), some (zI v1), some (zI (s + 1)), none]) dX2_rowWithInTail_49 rfl rfl (by decide) rfl ?_
      refine V_goto 2 dX2_rowWithInTail_52 (by decide) ?_
      exact kc (s + 1) (zinj h)
theorem wX2_rowWithInTail {E : zE} {d : Nat} (hd : 0 ≤ d) {Q : Option zV → zM → Prop} {v1 : Int32} {mm : zM} {o : Int32} (h : fX2_rowWithInTail v1 mm = some o) (hQ : ∀ r, o = r → Q (some (zI r)) mm) : V E RX2 cX2_rowWithInTail 4 (some .int) d Q 0 [some (zK 2 0), some (zI v1), none, none] [] mm := by
  unfold fX2_rowWithInTail at h
  refine V_iconst 1 rfl (v := 0) dX2_rowWithInTail_0 (by decide) ?_
  refine V_istore_n 2 rfl 2 (L' := [some (zK 2 0), some (zI v1), some (zI 0), none]) dX2_rowWithInTail_1 rfl (by decide) rfl ?_
  obtain ⟨o6, h1, h⟩ := zbd h
  refine wX2_rowWithInTail_L2 hd h1 (fun y4 e => ?_) (fun r e => by have h := zcr_ e h; exact hQ r (zinj h))
  have h := zcl_ e h
  refine V_iconst 56 rfl (v := (-1)) dX2_rowWithInTail_55 (by decide) ?_
  exact V_iret dX2_rowWithInTail_56 rfl (hQ ((-1)) (zinj h))
theorem ctX2_rowWithInTail {E : zE} {d : Nat} (hd : 0 ≤ d) {v1 : Int32} {mm : zM} {o : Int32} (h : fX2_rowWithInTail v1 mm = some o) : zOC E yX2_rowWithInTail cX2_rowWithInTail 4 (some .int) d [zK 2 0, zI v1] mm (some (zI o)) mm :=
  zCT_of (by decide) (Nat.le_of_ble_eq_true rfl) (zk_k (zk_i zk_0)) rfl (wX2_rowWithInTail hd h (fun r e => ⟨by rw [e], rfl⟩))
def fX2_freeHead_L2 (mm : zM) (s : Int32) : Option (Int32 ⊕ (Unit ⊕ Int32)) :=
  if (gi mm 2 0 9) ≤ s then (some (.inr (.inl ()))) else (zob (zin s 5) (zob (zin s 5) (if (gi mm 26 0 (zn s)) ≤ (gi mm 25 0 (zn s)) then (some (.inl (s + 1))) else (zob (zin s 5) (zob (zin s 5) (zob (zin ((gi mm 25 0 (zn s))) 12) ((fX2_rowWithInTail ((gi mm 24 (zn s) (zn ((gi mm 25 0 (zn s)))))) mm).bind (fun x1 => if x1 = (-1) then (some (.inr (.inr ((gi mm 24 (zn s) (zn ((gi mm 25 0 (zn s))))))))) else (some (.inl (s + 1)))))))))))
def fX2_freeHead (mm : zM) : Option Int32 :=
  (zloop (fX2_freeHead_L2 mm) zF 0).bind (fun o4 => zcase o4 (fun y2 => some ((-1))) (fun r3 => some r3))
theorem wX2_freeHead_L2 {E : zE} {d : Nat} (hd : 1 ≤ d) {Q : Option zV → zM → Prop} {mm : zM} {n : Nat} {s : Int32} {o : Unit ⊕ Int32} (h : zloop (fX2_freeHead_L2 mm) n s = some o) (he : ∀ y : Unit, o = .inl y → V E RX2 cX2_freeHead 3 (some .int) d Q 56 [none, none, none] [] mm) (hr : ∀ r : Int32, o = .inr r → Q (some (zI r)) mm) : V E RX2 cX2_freeHead 3 (some .int) d Q 2 [some (zK 2 0), some (zI s), none] [] mm := by
  induction n generalizing s with
  | zero => exact (zloop_0 h).elim
  | succ n ih =>
    obtain ⟨o1, h1, hc1, he1⟩ := zloop_s h
    have kc : ∀ s' : Int32, o1 = .inl s' → V E RX2 cX2_freeHead 3 (some .int) d Q 2 [some (zK 2 0), some (zI s'), none] [] mm := fun s' e => ih (hc1 s' e)
    have ke : ∀ y : Unit, o1 = .inr (.inl y) → V E RX2 cX2_freeHead 3 (some .int) d Q 56 [none, none, none] [] mm := fun y e => he y (he1 _ e)
    have kr : ∀ r : Int32, o1 = .inr (.inr r) → Q (some (zI r)) mm := fun r e => hr r (he1 _ e)
    clear h hc1 he1 ih
    have h := h1
    clear h1
    unfold fX2_freeHead_L2 at h
    refine V_iload_n 3 rfl 1 dX2_freeHead_2 rfl rfl ?_
    refine V_aload_n 4 rfl 0 dX2_freeHead_3 rfl rfl ?_
    refine V_geti 7 rfl dX2_freeHead_4 fl_X2_79 rfl ?_
    refine V_icmp_ge 10 56 rfl dX2_freeHead_7 (by decide) (fun c => ?_) (fun c => ?_)
    · have h := zpos c h
      exact V_w (zsub_n (zsub_n (zsub_s zsub_0))) (ke () (zinj h))
    · have h := zneg c h
      refine V_aload_n 11 rfl 0 dX2_freeHead_10 rfl rfl ?_
      refine V_getr 14 rfl 25 0 dX2_freeHead_11 fl_X2_32 rfl rfl rfl ?_
      refine V_iload_n 15 rfl 1 dX2_freeHead_14 rfl rfl ?_
      obtain ⟨hi, h⟩ := zobd h
      refine V_iald 16 rfl dX2_freeHead_15 rfl hi ?_
      refine V_aload_n 17 rfl 0 dX2_freeHead_16 rfl rfl ?_
      refine V_getr 20 rfl 26 0 dX2_freeHead_17 fl_X2_35 rfl rfl rfl ?_
      refine V_iload_n 21 rfl 1 dX2_freeHead_20 rfl rfl ?_
      obtain ⟨hi, h⟩ := zobd h
      refine V_iald 22 rfl dX2_freeHead_21 rfl hi ?_
      refine V_icmp_ge 25 50 rfl dX2_freeHead_22 (by decide) (fun c => ?_) (fun c => ?_)
      · have h := zpos c h
        refine V_iinc 53 rfl (s + 1) (L' := [some (zK 2 0), some (zI (s + 1)), none]) dX2_freeHead_50 rfl rfl (by decide) rfl ?_
        refine V_goto 2 dX2_freeHead_53 (by decide) ?_
        exact kc (s + 1) (zinj h)
      · have h := zneg c h
        refine V_aload_n 26 rfl 0 dX2_freeHead_25 rfl rfl ?_
        refine V_getr 29 rfl 23 0 dX2_freeHead_26 fl_X2_29 rfl rfl rfl ?_
        refine V_iload_n 30 rfl 1 dX2_freeHead_29 rfl rfl ?_
        obtain ⟨hi, h⟩ := zobd h
        refine V_aald 31 rfl 24 (zn s) dX2_freeHead_30 rfl (by decide) (by decide) rfl rfl hi ?_
        refine V_aload_n 32 rfl 0 dX2_freeHead_31 rfl rfl ?_
        refine V_getr 35 rfl 25 0 dX2_freeHead_32 fl_X2_32 rfl rfl rfl ?_
        refine V_iload_n 36 rfl 1 dX2_freeHead_35 rfl rfl ?_
        obtain ⟨hi, h⟩ := zobd h
        refine V_iald 37 rfl dX2_freeHead_36 rfl hi ?_
        obtain ⟨hi, h⟩ := zobd h
        refine V_iald 38 rfl dX2_freeHead_37 rfl hi ?_
        refine V_istore_n 39 rfl 2 (L' := [some (zK 2 0), some (zI s), some (zI (gi mm 24 (zn s) (zn ((gi mm 25 0 (zn s))))))]) dX2_freeHead_38 rfl (by decide) rfl ?_
        refine V_aload_n 40 rfl 0 dX2_freeHead_39 rfl rfl ?_
        refine V_iload_n 41 rfl 2 dX2_freeHead_40 rfl rfl ?_
        obtain ⟨x1, h1, h⟩ := zbd h
        refine V_cV 44 rfl 0 [zI (gi mm 24 (zn s) (zn ((gi mm 25 0 (zn s)))))] [] dX2_freeHead_41 cv_X2_102 (ctX2_rowWithInTail (Nat.le_refl 0) h1) (Nat.le_trans (by decide) hd) rfl rfl (Nat.le_of_ble_eq_true rfl) zoki rfl ?_
        refine V_iconst 45 rfl (v := (-1)) dX2_freeHead_44 (by decide) ?_
        refine V_icmp_ne 48 50 rfl dX2_freeHead_45 (by decide) (fun c => ?_) (fun c => ?_)
        · have h := zneg c h
          refine V_iinc 53 rfl (s + 1) (L' := [some (zK 2 0), some (zI (s + 1)), some (zI (gi mm 24 (zn s) (zn ((gi mm 25 0 (zn s))))))]) dX2_freeHead_50 rfl rfl (by decide) rfl ?_
          refine V_goto 2 dX2_freeHead_53 (by decide) ?_
          exact V_w (zsub_s (zsub_s (zsub_n zsub_0))) (kc (s + 1) (zinj h))
        · have h := zpos c h
          refine V_iload_n 49 rfl 2 dX2_freeHead_48 rfl rfl ?_
          exact V_iret dX2_freeHead_49 rfl (kr ((gi mm 24 (zn s) (zn ((gi mm 25 0 (zn s)))))) (zinj h))
theorem wX2_freeHead {E : zE} {d : Nat} (hd : 1 ≤ d) {Q : Option zV → zM → Prop} {mm : zM} {o : Int32} (h : fX2_freeHead mm = some o) (hQ : ∀ r, o = r → Q (some (zI r)) mm) : V E RX2 cX2_freeHead 3 (some .int) d Q 0 [some (zK 2 0), none, none] [] mm := by
  unfold fX2_freeHead at h
  refine V_iconst 1 rfl (v := 0) dX2_freeHead_0 (by decide) ?_
  refine V_istore_n 2 rfl 1 (L' := [some (zK 2 0), some (zI 0), none]) dX2_freeHead_1 rfl (by decide) rfl ?_
  obtain ⟨o4, h1, h⟩ := zbd h
  refine wX2_freeHead_L2 hd h1 (fun y2 e => ?_) (fun r e => by have h := zcr_ e h; exact hQ r (zinj h))
  have h := zcl_ e h
  refine V_iconst 57 rfl (v := (-1)) dX2_freeHead_56 (by decide) ?_
  exact V_iret dX2_freeHead_57 rfl (hQ ((-1)) (zinj h))
theorem ctX2_freeHead {E : zE} {d : Nat} (hd : 1 ≤ d) {mm : zM} {o : Int32} (h : fX2_freeHead mm = some o) : zOC E yX2_freeHead cX2_freeHead 3 (some .int) d [zK 2 0] mm (some (zI o)) mm :=
  zCT_of (by decide) (Nat.le_of_ble_eq_true rfl) (zk_k zk_0) rfl (wX2_freeHead hd h (fun r e => ⟨by rw [e], rfl⟩))
def fX2_dropHead_L2 (v1 : Int32) (s : (Int32 × zM)) : Option ((Int32 × zM) ⊕ (zM ⊕ Empty)) :=
  if (gi s.2 2 0 9) ≤ s.1 then (some (.inr (.inl s.2))) else (zob (zin s.1 5) (zob (zin s.1 5) (if (gi s.2 26 0 (zn s.1)) ≤ (gi s.2 25 0 (zn s.1)) then (some (.inl ((s.1 + 1), s.2))) else (zob (zin s.1 5) (zob (zin s.1 5) (zob (zin ((gi s.2 25 0 (zn s.1))) 12) (if (gi s.2 24 (zn s.1) (zn ((gi s.2 25 0 (zn s.1))))) = v1 then (zob (zin s.1 5) (zob (zin s.1 5) (some (.inl ((s.1 + 1), (wi s.2 25 0 (zn s.1) ((((gi s.2 25 0 (zn s.1))) + 1)))))))) else (some (.inl ((s.1 + 1), s.2))))))))))
def fX2_dropHead (v1 : Int32) (mm : zM) : Option zM :=
  (zloop (fX2_dropHead_L2 v1) zF (0, mm)).bind (fun o3 => zcase o3 (fun y1 => some y1) (fun r2 => r2.elim))
theorem wX2_dropHead_L2 {E : zE} {d : Nat} (hd : 0 ≤ d) {Q : Option zV → zM → Prop} {v1 : Int32} {n : Nat} {s : (Int32 × zM)} {o : zM ⊕ Empty} (h : zloop (fX2_dropHead_L2 v1) n s = some o) (he : ∀ y : zM, o = .inl y → V E RX2 cX2_dropHead 3 none d Q 58 [none, none, none] [] y) : V E RX2 cX2_dropHead 3 none d Q 2 [some (zK 2 0), some (zI v1), some (zI s.1)] [] s.2 := by
  induction n generalizing s with
  | zero => exact (zloop_0 h).elim
  | succ n ih =>
    obtain ⟨o1, h1, hc1, he1⟩ := zloop_s h
    have kc : ∀ s' : (Int32 × zM), o1 = .inl s' → V E RX2 cX2_dropHead 3 none d Q 2 [some (zK 2 0), some (zI v1), some (zI s'.1)] [] s'.2 := fun s' e => ih (hc1 s' e)
    have ke : ∀ y : zM, o1 = .inr (.inl y) → V E RX2 cX2_dropHead 3 none d Q 58 [none, none, none] [] y := fun y e => he y (he1 _ e)
    clear h hc1 he1 ih
    have h := h1
    clear h1
    unfold fX2_dropHead_L2 at h
    refine V_iload_n 3 rfl 2 dX2_dropHead_2 rfl rfl ?_
    refine V_aload_n 4 rfl 0 dX2_dropHead_3 rfl rfl ?_
    refine V_geti 7 rfl dX2_dropHead_4 fl_X2_79 rfl ?_
    refine V_icmp_ge 10 58 rfl dX2_dropHead_7 (by decide) (fun c => ?_) (fun c => ?_)
    · have h := zpos c h
      exact V_w (zsub_n (zsub_n (zsub_n zsub_0))) (ke s.2 (zinj h))
    · have h := zneg c h
      refine V_aload_n 11 rfl 0 dX2_dropHead_10 rfl rfl ?_
      refine V_getr 14 rfl 25 0 dX2_dropHead_11 fl_X2_32 rfl rfl rfl ?_
      refine V_iload_n 15 rfl 2 dX2_dropHead_14 rfl rfl ?_
      obtain ⟨hi, h⟩ := zobd h
      refine V_iald 16 rfl dX2_dropHead_15 rfl hi ?_
      refine V_aload_n 17 rfl 0 dX2_dropHead_16 rfl rfl ?_
      refine V_getr 20 rfl 26 0 dX2_dropHead_17 fl_X2_35 rfl rfl rfl ?_
      refine V_iload_n 21 rfl 2 dX2_dropHead_20 rfl rfl ?_
      obtain ⟨hi, h⟩ := zobd h
      refine V_iald 22 rfl dX2_dropHead_21 rfl hi ?_
      refine V_icmp_ge 25 52 rfl dX2_dropHead_22 (by decide) (fun c => ?_) (fun c => ?_)
      · have h := zpos c h
        refine V_iinc 55 rfl (s.1 + 1) (L' := [some (zK 2 0), some (zI v1), some (zI (s.1 + 1))]) dX2_dropHead_52 rfl rfl (by decide) rfl ?_
        refine V_goto 2 dX2_dropHead_55 (by decide) ?_
        exact kc ((s.1 + 1), s.2) (zinj h)
      · have h := zneg c h
        refine V_aload_n 26 rfl 0 dX2_dropHead_25 rfl rfl ?_
        refine V_getr 29 rfl 23 0 dX2_dropHead_26 fl_X2_29 rfl rfl rfl ?_
        refine V_iload_n 30 rfl 2 dX2_dropHead_29 rfl rfl ?_
        obtain ⟨hi, h⟩ := zobd h
        refine V_aald 31 rfl 24 (zn s.1) dX2_dropHead_30 rfl (by decide) (by decide) rfl rfl hi ?_
        refine V_aload_n 32 rfl 0 dX2_dropHead_31 rfl rfl ?_
        refine V_getr 35 rfl 25 0 dX2_dropHead_32 fl_X2_32 rfl rfl rfl ?_
        refine V_iload_n 36 rfl 2 dX2_dropHead_35 rfl rfl ?_
        obtain ⟨hi, h⟩ := zobd h
        refine V_iald 37 rfl dX2_dropHead_36 rfl hi ?_
        obtain ⟨hi, h⟩ := zobd h
        refine V_iald 38 rfl dX2_dropHead_37 rfl hi ?_
        refine V_iload_n 39 rfl 1 dX2_dropHead_38 rfl rfl ?_
        refine V_icmp_ne 42 52 rfl dX2_dropHead_39 (by decide) (fun c => ?_) (fun c => ?_)
        · have h := zneg c h
          refine V_iinc 55 rfl (s.1 + 1) (L' := [some (zK 2 0), some (zI v1), some (zI (s.1 + 1))]) dX2_dropHead_52 rfl rfl (by decide) rfl ?_
          refine V_goto 2 dX2_dropHead_55 (by decide) ?_
          exact kc ((s.1 + 1), s.2) (zinj h)
        · have h := zpos c h
          refine V_aload_n 43 rfl 0 dX2_dropHead_42 rfl rfl ?_
          refine V_getr 46 rfl 25 0 dX2_dropHead_43 fl_X2_32 rfl rfl rfl ?_
          refine V_iload_n 47 rfl 2 dX2_dropHead_46 rfl rfl ?_
          refine V_dup2 48 rfl dX2_dropHead_47 rfl rfl ?_
          obtain ⟨hi, h⟩ := zobd h
          refine V_iald 49 rfl dX2_dropHead_48 rfl hi ?_
          refine V_iconst 50 rfl (v := 1) dX2_dropHead_49 (by decide) ?_
          refine V_iadd 51 rfl dX2_dropHead_50 ?_
          obtain ⟨hi, h⟩ := zobd h
          refine V_iast 52 rfl dX2_dropHead_51 rfl hi ?_
          refine V_iinc 55 rfl (s.1 + 1) (L' := [some (zK 2 0), some (zI v1), some (zI (s.1 + 1))]) dX2_dropHead_52 rfl rfl (by decide) rfl ?_
          refine V_goto 2 dX2_dropHead_55 (by decide) ?_
          exact kc ((s.1 + 1), (wi s.2 25 0 (zn s.1) ((((gi s.2 25 0 (zn s.1))) + 1)))) (zinj h)
theorem wX2_dropHead {E : zE} {d : Nat} (hd : 0 ≤ d) {Q : Option zV → zM → Prop} {v1 : Int32} {mm : zM} {o : zM} (h : fX2_dropHead v1 mm = some o) (hQ : ∀ r, o = r → Q none r) : V E RX2 cX2_dropHead 3 none d Q 0 [some (zK 2 0), some (zI v1), none] [] mm := by
  unfold fX2_dropHead at h
  refine V_iconst 1 rfl (v := 0) dX2_dropHead_0 (by decide) ?_
  refine V_istore_n 2 rfl 2 (L' := [some (zK 2 0), some (zI v1), some (zI 0)]) dX2_dropHead_1 rfl (by decide) rfl ?_
  obtain ⟨o3, h1, h⟩ := zbd h
  refine wX2_dropHead_L2 hd h1 (fun y1 e => ?_)
  have h := zcl_ e h
  exact V_vret dX2_dropHead_58 rfl (hQ y1 (zinj h))
theorem ctX2_dropHead {E : zE} {d : Nat} (hd : 0 ≤ d) {v1 : Int32} {mm : zM} {o : zM} (h : fX2_dropHead v1 mm = some o) : zOC E yX2_dropHead cX2_dropHead 3 none d [zK 2 0, zI v1] mm none o :=
  zCT_of (by decide) (Nat.le_of_ble_eq_true rfl) (zk_k (zk_i zk_0)) rfl (wX2_dropHead hd h (fun r e => ⟨rfl, by rw [e]⟩))
def fX2_firstRowLeft_L2 (mm : zM) (s : Int32) : Option (Int32 ⊕ (Unit ⊕ Int32)) :=
  if (gi mm 2 0 9) ≤ s then (some (.inr (.inl ()))) else (zob (zin s 5) (zob (zin s 5) (if (gi mm 26 0 (zn s)) ≤ (gi mm 25 0 (zn s)) then (some (.inl (s + 1))) else (some (.inr (.inr s))))))
def fX2_firstRowLeft (mm : zM) : Option Int32 :=
  (zloop (fX2_firstRowLeft_L2 mm) zF 0).bind (fun o3 => zcase o3 (fun y1 => some ((-1))) (fun r2 => some r2))
theorem wX2_firstRowLeft_L2 {E : zE} {d : Nat} (hd : 0 ≤ d) {Q : Option zV → zM → Prop} {mm : zM} {n : Nat} {s : Int32} {o : Unit ⊕ Int32} (h : zloop (fX2_firstRowLeft_L2 mm) n s = some o) (he : ∀ y : Unit, o = .inl y → V E RX2 cX2_firstRowLeft 2 (some .int) d Q 33 [none, none] [] mm) (hr : ∀ r : Int32, o = .inr r → Q (some (zI r)) mm) : V E RX2 cX2_firstRowLeft 2 (some .int) d Q 2 [some (zK 2 0), some (zI s)] [] mm := by
  induction n generalizing s with
  | zero => exact (zloop_0 h).elim
  | succ n ih =>
    obtain ⟨o1, h1, hc1, he1⟩ := zloop_s h
    have kc : ∀ s' : Int32, o1 = .inl s' → V E RX2 cX2_firstRowLeft 2 (some .int) d Q 2 [some (zK 2 0), some (zI s')] [] mm := fun s' e => ih (hc1 s' e)
    have ke : ∀ y : Unit, o1 = .inr (.inl y) → V E RX2 cX2_firstRowLeft 2 (some .int) d Q 33 [none, none] [] mm := fun y e => he y (he1 _ e)
    have kr : ∀ r : Int32, o1 = .inr (.inr r) → Q (some (zI r)) mm := fun r e => hr r (he1 _ e)
    clear h hc1 he1 ih
    have h := h1
    clear h1
    unfold fX2_firstRowLeft_L2 at h
    refine V_iload_n 3 rfl 1 dX2_firstRowLeft_2 rfl rfl ?_
    refine V_aload_n 4 rfl 0 dX2_firstRowLeft_3 rfl rfl ?_
    refine V_geti 7 rfl dX2_firstRowLeft_4 fl_X2_79 rfl ?_
    refine V_icmp_ge 10 33 rfl dX2_firstRowLeft_7 (by decide) (fun c => ?_) (fun c => ?_)
    · have h := zpos c h
      exact V_w (zsub_n (zsub_n zsub_0)) (ke () (zinj h))
    · have h := zneg c h
      refine V_aload_n 11 rfl 0 dX2_firstRowLeft_10 rfl rfl ?_
      refine V_getr 14 rfl 25 0 dX2_firstRowLeft_11 fl_X2_32 rfl rfl rfl ?_
      refine V_iload_n 15 rfl 1 dX2_firstRowLeft_14 rfl rfl ?_
      obtain ⟨hi, h⟩ := zobd h
      refine V_iald 16 rfl dX2_firstRowLeft_15 rfl hi ?_
      refine V_aload_n 17 rfl 0 dX2_firstRowLeft_16 rfl rfl ?_
      refine V_getr 20 rfl 26 0 dX2_firstRowLeft_17 fl_X2_35 rfl rfl rfl ?_
      refine V_iload_n 21 rfl 1 dX2_firstRowLeft_20 rfl rfl ?_
      obtain ⟨hi, h⟩ := zobd h
      refine V_iald 22 rfl dX2_firstRowLeft_21 rfl hi ?_
      refine V_icmp_ge 25 27 rfl dX2_firstRowLeft_22 (by decide) (fun c => ?_) (fun c => ?_)
      · have h := zpos c h
        refine V_iinc 30 rfl (s + 1) (L' := [some (zK 2 0), some (zI (s + 1))]) dX2_firstRowLeft_27 rfl rfl (by decide) rfl ?_
        refine V_goto 2 dX2_firstRowLeft_30 (by decide) ?_
        exact kc (s + 1) (zinj h)
      · have h := zneg c h
        refine V_iload_n 26 rfl 1 dX2_firstRowLeft_25 rfl rfl ?_
        exact V_iret dX2_firstRowLeft_26 rfl (kr s (zinj h))
theorem wX2_firstRowLeft {E : zE} {d : Nat} (hd : 0 ≤ d) {Q : Option zV → zM → Prop} {mm : zM} {o : Int32} (h : fX2_firstRowLeft mm = some o) (hQ : ∀ r, o = r → Q (some (zI r)) mm) : V E RX2 cX2_firstRowLeft 2 (some .int) d Q 0 [some (zK 2 0), none] [] mm := by
  unfold fX2_firstRowLeft at h
  refine V_iconst 1 rfl (v := 0) dX2_firstRowLeft_0 (by decide) ?_
  refine V_istore_n 2 rfl 1 (L' := [some (zK 2 0), some (zI 0)]) dX2_firstRowLeft_1 rfl (by decide) rfl ?_
  obtain ⟨o3, h1, h⟩ := zbd h
  refine wX2_firstRowLeft_L2 hd h1 (fun y1 e => ?_) (fun r e => by have h := zcr_ e h; exact hQ r (zinj h))
  have h := zcl_ e h
  refine V_iconst 34 rfl (v := (-1)) dX2_firstRowLeft_33 (by decide) ?_
  exact V_iret dX2_firstRowLeft_34 rfl (hQ ((-1)) (zinj h))
theorem ctX2_firstRowLeft {E : zE} {d : Nat} (hd : 0 ≤ d) {mm : zM} {o : Int32} (h : fX2_firstRowLeft mm = some o) : zOC E yX2_firstRowLeft cX2_firstRowLeft 2 (some .int) d [zK 2 0] mm (some (zI o)) mm :=
  zCT_of (by decide) (Nat.le_of_ble_eq_true rfl) (zk_k zk_0) rfl (wX2_firstRowLeft hd h (fun r e => ⟨by rw [e], rfl⟩))
def fX2_ringFrom_L8 (v1 : Int32) (s : (Int32 × Int32 × Int32 × zM)) : Option ((Int32 × Int32 × Int32 × zM) ⊕ ((Int32 × Int32 × zM) ⊕ Empty)) :=
  if 12 ≤ s.2.1 then (some (.inr (.inl (s.1, s.2.1, s.2.2.2)))) else ((fX9_hasBit s.2.2.1 s.1 s.2.2.2).bind (fun x1 => if x1 = 0 then (zob (zin s.2.1 12) ((fX2_rowWithInTail s.1 ((wi s.2.2.2 27 0 (zn s.2.1) s.1))).bind (fun x2 => if x2 = (-1) then (some (.inl (s.1, (s.2.1 + 1), (s.2.2.1 ||| ((1 <<< (s.1 &&& 31)))), (wi s.2.2.2 27 0 (zn s.2.1) s.1)))) else (zob (zin x2 5) (zob (zin x2 5) (zob (zin ((gi ((wi s.2.2.2 27 0 (zn s.2.1) s.1)) 25 0 (zn x2))) 12) (some (.inl ((gi ((wi s.2.2.2 27 0 (zn s.2.1) s.1)) 24 (zn x2) (zn ((gi ((wi s.2.2.2 27 0 (zn s.2.1) s.1)) 25 0 (zn x2))))), (s.2.1 + 1), (s.2.2.1 ||| ((1 <<< (s.1 &&& 31)))), (wi s.2.2.2 27 0 (zn s.2.1) s.1)))))))))) else (some (.inr (.inl (s.1, s.2.1, s.2.2.2))))))
def fX2_ringFrom_L82 (v1 : Int32) (v3 : Int32) (v4 : Int32) (mm : zM) (s : Int32) : Option (Int32 ⊕ (Int32 ⊕ Empty)) :=
  if v4 ≤ s then (some (.inr (.inl s))) else (zob (zin s 12) (if (gi mm 27 0 (zn s)) = v3 then (some (.inr (.inl s))) else (some (.inl (s + 1)))))
def fX2_ringFrom (v1 : Int32) (v2 : Int32) (mm : zM) : Option zM :=
  (zloop (fX2_ringFrom_L8 v1) zF (v2, 0, 0, mm)).bind (fun o8 => zcase o8 (fun y3 => (zloop (fX2_ringFrom_L82 v1 y3.1 y3.2.1 y3.2.2) zF 0).bind (fun o7 => zcase o7 (fun y5 => zob (zin v1 12) (zob (zcin y5 0 ((y3.2.1 - y5)) 12 12) (zob (zin v1 12) (some ((wi ((zcp y3.2.2 27 0 (zn y5) 20 (zn v1) (zn 0) (zn ((y3.2.1 - y5))))) 21 0 (zn v1) ((y3.2.1 - y5)))))))) (fun r6 => r6.elim))) (fun r4 => r4.elim))
theorem wX2_ringFrom_L8 {E : zE} {d : Nat} (hd : 1 ≤ d) {Q : Option zV → zM → Prop} {v1 : Int32} {n : Nat} {s : (Int32 × Int32 × Int32 × zM)} {o : (Int32 × Int32 × zM) ⊕ Empty} (h : zloop (fX2_ringFrom_L8 v1) n s = some o) (he : ∀ y : (Int32 × Int32 × zM), o = .inl y → V E RX2 cX2_ringFrom 7 none d Q 79 [some (zK 2 0), some (zI v1), none, some (zI y.1), some (zI y.2.1), none, none] [] y.2.2) : V E RX2 cX2_ringFrom 7 none d Q 8 [some (zK 2 0), some (zI v1), none, some (zI s.1), some (zI s.2.1), some (zI s.2.2.1), none] [] s.2.2.2 := by
  induction n generalizing s with
  | zero => exact (zloop_0 h).elim
  | succ n ih =>
    obtain ⟨o1, h1, hc1, he1⟩ := zloop_s h
    have kc : ∀ s' : (Int32 × Int32 × Int32 × zM), o1 = .inl s' → V E RX2 cX2_ringFrom 7 none d Q 8 [some (zK 2 0), some (zI v1), none, some (zI s'.1), some (zI s'.2.1), some (zI s'.2.2.1), none] [] s'.2.2.2 := fun s' e => ih (hc1 s' e)
    have ke : ∀ y : (Int32 × Int32 × zM), o1 = .inr (.inl y) → V E RX2 cX2_ringFrom 7 none d Q 79 [some (zK 2 0), some (zI v1), none, some (zI y.1), some (zI y.2.1), none, none] [] y.2.2 := fun y e => he y (he1 _ e)
    clear h hc1 he1 ih
    have h := h1
    clear h1
    unfold fX2_ringFrom_L8 at h
    refine V_iload 10 rfl dX2_ringFrom_8 rfl ?_
    refine V_bipush 12 rfl (v := 12) dX2_ringFrom_10 (by decide) ?_
    refine V_icmp_ge 15 79 rfl dX2_ringFrom_12 (by decide) (fun c => ?_) (fun c => ?_)
    · have h := zpos c h
      exact V_w (zsub_s (zsub_s (zsub_s (zsub_s (zsub_s (zsub_n (zsub_s zsub_0))))))) (ke (s.1, s.2.1, s.2.2.2) (zinj h))
    · have h := zneg c h
      refine V_iload 17 rfl dX2_ringFrom_15 rfl ?_
      refine V_iload_n 18 rfl 3 dX2_ringFrom_17 rfl rfl ?_
      obtain ⟨x1, h1, h⟩ := zbd h
      refine V_cN 21 rfl 0 [zI s.2.2.1, zI s.1] [] dX2_ringFrom_18 cn_X2_106 (ctX9_hasBit (Nat.le_refl 0) h1) (Nat.le_trans (by decide) hd) rfl rfl (Nat.le_of_ble_eq_true rfl) zoki rfl ?_
      refine V_if_ne 24 79 rfl dX2_ringFrom_21 (by decide) (fun c => ?_) (fun c => ?_)
      · have h := zneg c h
        exact V_w (zsub_s (zsub_s (zsub_s (zsub_s (zsub_s (zsub_n (zsub_s zsub_0))))))) (ke (s.1, s.2.1, s.2.2.2) (zinj h))
      · have h := zpos c h
        refine V_aload_n 25 rfl 0 dX2_ringFrom_24 rfl rfl ?_
        refine V_getr 28 rfl 27 0 dX2_ringFrom_25 fl_X2_38 rfl rfl rfl ?_
        refine V_iload 30 rfl dX2_ringFrom_28 rfl ?_
        refine V_iload_n 31 rfl 3 dX2_ringFrom_30 rfl rfl ?_
        obtain ⟨hi, h⟩ := zobd h
        refine V_iast 32 rfl dX2_ringFrom_31 rfl hi ?_
        refine V_iinc 35 rfl (s.2.1 + 1) (L' := [some (zK 2 0), some (zI v1), none, some (zI s.1), some (zI (s.2.1 + 1)), some (zI s.2.2.1), none]) dX2_ringFrom_32 rfl rfl (by decide) rfl ?_
        refine V_iload 37 rfl dX2_ringFrom_35 rfl ?_
        refine V_iconst 38 rfl (v := 1) dX2_ringFrom_37 (by decide) ?_
        refine V_iload_n 39 rfl 3 dX2_ringFrom_38 rfl rfl ?_
        refine V_ishl 40 rfl dX2_ringFrom_39 ?_
        refine V_ior 41 rfl dX2_ringFrom_40 ?_
        refine V_istore 43 rfl (L' := [some (zK 2 0), some (zI v1), none, some (zI s.1), some (zI (s.2.1 + 1)), some (zI (s.2.2.1 ||| ((1 <<< (s.1 &&& 31))))), none]) dX2_ringFrom_41 (by decide) rfl ?_
        refine V_aload_n 44 rfl 0 dX2_ringFrom_43 rfl rfl ?_
        refine V_iload_n 45 rfl 3 dX2_ringFrom_44 rfl rfl ?_
        obtain ⟨x2, h1, h⟩ := zbd h
        refine V_cV 48 rfl 0 [zI s.1] [] dX2_ringFrom_45 cv_X2_102 (ctX2_rowWithInTail (Nat.le_refl 0) h1) (Nat.le_trans (by decide) hd) rfl rfl (Nat.le_of_ble_eq_true rfl) zoki rfl ?_
        refine V_istore 50 rfl (L' := [some (zK 2 0), some (zI v1), none, some (zI s.1), some (zI (s.2.1 + 1)), some (zI (s.2.2.1 ||| ((1 <<< (s.1 &&& 31))))), some (zI x2)]) dX2_ringFrom_48 (by decide) rfl ?_
        refine V_iload 52 rfl dX2_ringFrom_50 rfl ?_
        refine V_iconst 53 rfl (v := (-1)) dX2_ringFrom_52 (by decide) ?_
        refine V_icmp_ne 56 60 rfl dX2_ringFrom_53 (by decide) (fun c => ?_) (fun c => ?_)
        · have h := zneg c h
          refine V_aload_n 61 rfl 0 dX2_ringFrom_60 rfl rfl ?_
          refine V_getr 64 rfl 23 0 dX2_ringFrom_61 fl_X2_29 rfl rfl rfl ?_
          refine V_iload 66 rfl dX2_ringFrom_64 rfl ?_
          obtain ⟨hi, h⟩ := zobd h
          refine V_aald 67 rfl 24 (zn x2) dX2_ringFrom_66 rfl (by decide) (by decide) rfl rfl hi ?_
          refine V_aload_n 68 rfl 0 dX2_ringFrom_67 rfl rfl ?_
          refine V_getr 71 rfl 25 0 dX2_ringFrom_68 fl_X2_32 rfl rfl rfl ?_
          refine V_iload 73 rfl dX2_ringFrom_71 rfl ?_
          obtain ⟨hi, h⟩ := zobd h
          refine V_iald 74 rfl dX2_ringFrom_73 rfl hi ?_
          obtain ⟨hi, h⟩ := zobd h
          refine V_iald 75 rfl dX2_ringFrom_74 rfl hi ?_
          refine V_istore_n 76 rfl 3 (L' := [some (zK 2 0), some (zI v1), none, some (zI (gi ((wi s.2.2.2 27 0 (zn s.2.1) s.1)) 24 (zn x2) (zn ((gi ((wi s.2.2.2 27 0 (zn s.2.1) s.1)) 25 0 (zn x2)))))), some (zI (s.2.1 + 1)), some (zI (s.2.2.1 ||| ((1 <<< (s.1 &&& 31))))), some (zI x2)]) dX2_ringFrom_75 rfl (by decide) rfl ?_
          refine V_goto 8 dX2_ringFrom_76 (by decide) ?_
          exact V_w (zsub_s (zsub_s (zsub_s (zsub_s (zsub_s (zsub_s (zsub_n zsub_0))))))) (kc ((gi ((wi s.2.2.2 27 0 (zn s.2.1) s.1)) 24 (zn x2) (zn ((gi ((wi s.2.2.2 27 0 (zn s.2.1) s.1)) 25 0 (zn x2))))), (s.2.1 + 1), (s.2.2.1 ||| ((1 <<< (s.1 &&& 31)))), (wi s.2.2.2 27 0 (zn s.2.1) s.1)) (zinj h))
        · have h := zpos c h
          refine V_iload_n 57 rfl 3 dX2_ringFrom_56 rfl rfl ?_
          refine V_goto 75 dX2_ringFrom_57 (by decide) ?_
          refine V_istore_n 76 rfl 3 (L' := [some (zK 2 0), some (zI v1), none, some (zI s.1), some (zI (s.2.1 + 1)), some (zI (s.2.2.1 ||| ((1 <<< (s.1 &&& 31))))), some (zI x2)]) dX2_ringFrom_75 rfl (by decide) rfl ?_
          refine V_goto 8 dX2_ringFrom_76 (by decide) ?_
          exact V_w (zsub_s (zsub_s (zsub_s (zsub_s (zsub_s (zsub_s (zsub_n zsub_0))))))) (kc (s.1, (s.2.1 + 1), (s.2.2.1 ||| ((1 <<< (s.1 &&& 31)))), (wi s.2.2.2 27 0 (zn s.2.1) s.1)) (zinj h))
theorem wX2_ringFrom_L82 {E : zE} {d : Nat} (hd : 1 ≤ d) {Q : Option zV → zM → Prop} {v1 : Int32} {v3 : Int32} {v4 : Int32} {mm : zM} {n : Nat} {s : Int32} {o : Int32 ⊕ Empty} (h : zloop (fX2_ringFrom_L82 v1 v3 v4 mm) n s = some o) (he : ∀ y : Int32, o = .inl y → V E RX2 cX2_ringFrom 7 none d Q 106 [some (zK 2 0), some (zI v1), none, none, some (zI v4), none, some (zI y)] [] mm) : V E RX2 cX2_ringFrom 7 none d Q 82 [some (zK 2 0), some (zI v1), none, some (zI v3), some (zI v4), none, some (zI s)] [] mm := by
  induction n generalizing s with
  | zero => exact (zloop_0 h).elim
  | succ n ih =>
    obtain ⟨o1, h1, hc1, he1⟩ := zloop_s h
    have kc : ∀ s' : Int32, o1 = .inl s' → V E RX2 cX2_ringFrom 7 none d Q 82 [some (zK 2 0), some (zI v1), none, some (zI v3), some (zI v4), none, some (zI s')] [] mm := fun s' e => ih (hc1 s' e)
    have ke : ∀ y : Int32, o1 = .inr (.inl y) → V E RX2 cX2_ringFrom 7 none d Q 106 [some (zK 2 0), some (zI v1), none, none, some (zI v4), none, some (zI y)] [] mm := fun y e => he y (he1 _ e)
    clear h hc1 he1 ih
    have h := h1
    clear h1
    unfold fX2_ringFrom_L82 at h
    refine V_iload 84 rfl dX2_ringFrom_82 rfl ?_
    refine V_iload 86 rfl dX2_ringFrom_84 rfl ?_
    refine V_icmp_ge 89 106 rfl dX2_ringFrom_86 (by decide) (fun c => ?_) (fun c => ?_)
    · have h := zpos c h
      exact V_w (zsub_s (zsub_s (zsub_s (zsub_n (zsub_s (zsub_s (zsub_s zsub_0))))))) (ke s (zinj h))
    · have h := zneg c h
      refine V_aload_n 90 rfl 0 dX2_ringFrom_89 rfl rfl ?_
      refine V_getr 93 rfl 27 0 dX2_ringFrom_90 fl_X2_38 rfl rfl rfl ?_
      refine V_iload 95 rfl dX2_ringFrom_93 rfl ?_
      obtain ⟨hi, h⟩ := zobd h
      refine V_iald 96 rfl dX2_ringFrom_95 rfl hi ?_
      refine V_iload_n 97 rfl 3 dX2_ringFrom_96 rfl rfl ?_
      refine V_icmp_eq 100 106 rfl dX2_ringFrom_97 (by decide) (fun c => ?_) (fun c => ?_)
      · have h := zpos c h
        exact V_w (zsub_s (zsub_s (zsub_s (zsub_n (zsub_s (zsub_s (zsub_s zsub_0))))))) (ke s (zinj h))
      · have h := zneg c h
        refine V_iinc 103 rfl (s + 1) (L' := [some (zK 2 0), some (zI v1), none, some (zI v3), some (zI v4), none, some (zI (s + 1))]) dX2_ringFrom_100 rfl rfl (by decide) rfl ?_
        refine V_goto 82 dX2_ringFrom_103 (by decide) ?_
        exact kc (s + 1) (zinj h)
theorem wX2_ringFrom {E : zE} {d : Nat} (hd : 1 ≤ d) {Q : Option zV → zM → Prop} {v1 : Int32} {v2 : Int32} {mm : zM} {o : zM} (h : fX2_ringFrom v1 v2 mm = some o) (hQ : ∀ r, o = r → Q none r) : V E RX2 cX2_ringFrom 7 none d Q 0 [some (zK 2 0), some (zI v1), some (zI v2), none, none, none, none] [] mm := by
  unfold fX2_ringFrom at h
  refine V_iload_n 1 rfl 2 dX2_ringFrom_0 rfl rfl ?_
  refine V_istore_n 2 rfl 3 (L' := [some (zK 2 0), some (zI v1), some (zI v2), some (zI v2), none, none, none]) dX2_ringFrom_1 rfl (by decide) rfl ?_
  refine V_iconst 3 rfl (v := 0) dX2_ringFrom_2 (by decide) ?_
  refine V_istore 5 rfl (L' := [some (zK 2 0), some (zI v1), some (zI v2), some (zI v2), some (zI 0), none, none]) dX2_ringFrom_3 (by decide) rfl ?_
  refine V_iconst 6 rfl (v := 0) dX2_ringFrom_5 (by decide) ?_
  refine V_istore 8 rfl (L' := [some (zK 2 0), some (zI v1), some (zI v2), some (zI v2), some (zI 0), some (zI 0), none]) dX2_ringFrom_6 (by decide) rfl ?_
  obtain ⟨o8, h1, h⟩ := zbd h
  refine V_w (zsub_s (zsub_s (zsub_n (zsub_s (zsub_s (zsub_s (zsub_s zsub_0))))))) (wX2_ringFrom_L8 hd h1 (fun y3 e => ?_))
  have h := zcl_ e h
  refine V_iconst 80 rfl (v := 0) dX2_ringFrom_79 (by decide) ?_
  refine V_istore 82 rfl (L' := [some (zK 2 0), some (zI v1), none, some (zI y3.1), some (zI y3.2.1), none, some (zI 0)]) dX2_ringFrom_80 (by decide) rfl ?_
  obtain ⟨o7, h1, h⟩ := zbd h
  refine wX2_ringFrom_L82 hd h1 (fun y5 e => ?_)
  have h := zcl_ e h
  refine V_aload_n 107 rfl 0 dX2_ringFrom_106 rfl rfl ?_
  refine V_getr 110 rfl 27 0 dX2_ringFrom_107 fl_X2_38 rfl rfl rfl ?_
  refine V_iload 112 rfl dX2_ringFrom_110 rfl ?_
  refine V_aload_n 113 rfl 0 dX2_ringFrom_112 rfl rfl ?_
  refine V_getr 116 rfl 19 0 dX2_ringFrom_113 fl_X2_20 rfl rfl rfl ?_
  refine V_iload_n 117 rfl 1 dX2_ringFrom_116 rfl rfl ?_
  obtain ⟨hi, h⟩ := zobd h
  refine V_aald 118 rfl 20 (zn v1) dX2_ringFrom_117 rfl (by decide) (by decide) rfl rfl hi ?_
  refine V_iconst 119 rfl (v := 0) dX2_ringFrom_118 (by decide) ?_
  refine V_iload 121 rfl dX2_ringFrom_119 rfl ?_
  refine V_iload 123 rfl dX2_ringFrom_121 rfl ?_
  refine V_isub 124 rfl dX2_ringFrom_123 ?_
  obtain ⟨hi, h⟩ := zobd h
  refine V_copy 127 rfl dX2_ringFrom_124 ca_X2_82 rfl rfl hi (Nat.le_trans (by decide) hd) (Nat.le_of_ble_eq_true rfl) ?_
  refine V_aload_n 128 rfl 0 dX2_ringFrom_127 rfl rfl ?_
  refine V_getr 131 rfl 21 0 dX2_ringFrom_128 fl_X2_23 rfl rfl rfl ?_
  refine V_iload_n 132 rfl 1 dX2_ringFrom_131 rfl rfl ?_
  refine V_iload 134 rfl dX2_ringFrom_132 rfl ?_
  refine V_iload 136 rfl dX2_ringFrom_134 rfl ?_
  refine V_isub 137 rfl dX2_ringFrom_136 ?_
  obtain ⟨hi, h⟩ := zobd h
  refine V_iast 138 rfl dX2_ringFrom_137 rfl hi ?_
  exact V_vret dX2_ringFrom_138 rfl (hQ ((wi ((zcp y3.2.2 27 0 (zn y5) 20 (zn v1) (zn 0) (zn ((y3.2.1 - y5))))) 21 0 (zn v1) ((y3.2.1 - y5)))) (zinj h))
theorem ctX2_ringFrom {E : zE} {d : Nat} (hd : 1 ≤ d) {v1 : Int32} {v2 : Int32} {mm : zM} {o : zM} (h : fX2_ringFrom v1 v2 mm = some o) : zOC E yX2_ringFrom cX2_ringFrom 7 none d [zK 2 0, zI v1, zI v2] mm none o :=
  zCT_of (by decide) (Nat.le_of_ble_eq_true rfl) (zk_k (zk_i (zk_i zk_0))) rfl (wX2_ringFrom hd h (fun r e => ⟨rfl, by rw [e]⟩))
def fX2_merge_L19 (v1 : Int32) (v2 : Nat) (s : (Int32 × Int32 × zM)) : Option ((Int32 × Int32 × zM) ⊕ ((Int32 × zM) ⊕ Empty)) :=
  if s.2.1 = (-1) then (some (.inr (.inl (s.1, s.2.2)))) else (if 12 ≤ s.1 then (some (.inr (.inl (s.1, s.2.2)))) else (zob (zin s.1 12) ((fX2_dropHead s.2.1 ((wi s.2.2 17 v2 (zn s.1) s.2.1))).bind (fun x2 => (fX2_freeHead x2).bind (fun x3 => some (.inl ((s.1 + 1), x3, x2)))))))
def fX2_merge (v1 : Int32) (mm : zM) : Option zM :=
  zob (zin v1 12) ((fX2_freeHead ((wi mm 17 (zn v1) (zn 0) v1))).bind (fun x1 => (zloop (fX2_merge_L19 v1 ((zn v1))) zF (1, x1, (wi mm 17 (zn v1) (zn 0) v1))).bind (fun o8 => zcase o8 (fun y4 => (fX2_firstRowLeft y4.2).bind (fun x6 => if x6 = (-1) then (zob (zin v1 12) (some ((wi y4.2 18 0 (zn v1) y4.1)))) else (zob (zin x6 5) (zob (zin x6 5) (zob (zin ((gi y4.2 25 0 (zn x6))) 12) ((fX2_ringFrom v1 ((gi y4.2 24 (zn x6) (zn ((gi y4.2 25 0 (zn x6)))))) y4.2).bind (fun x7 => some x7))))))) (fun r5 => r5.elim))))
theorem wX2_merge_L19 {E : zE} {d : Nat} (hd : 2 ≤ d) {Q : Option zV → zM → Prop} {v1 : Int32} {v2 : Nat} {n : Nat} {s : (Int32 × Int32 × zM)} {o : (Int32 × zM) ⊕ Empty} (h : zloop (fX2_merge_L19 v1 v2) n s = some o) (he : ∀ y : (Int32 × zM), o = .inl y → V E RX2 cX2_merge 5 none d Q 54 [some (zK 2 0), some (zI v1), none, some (zI y.1), none] [] y.2) : V E RX2 cX2_merge 5 none d Q 19 [some (zK 2 0), some (zI v1), some (zK 17 v2), some (zI s.1), some (zI s.2.1)] [] s.2.2 := by
  induction n generalizing s with
  | zero => exact (zloop_0 h).elim
  | succ n ih =>
    obtain ⟨o1, h1, hc1, he1⟩ := zloop_s h
    have kc : ∀ s' : (Int32 × Int32 × zM), o1 = .inl s' → V E RX2 cX2_merge 5 none d Q 19 [some (zK 2 0), some (zI v1), some (zK 17 v2), some (zI s'.1), some (zI s'.2.1)] [] s'.2.2 := fun s' e => ih (hc1 s' e)
    have ke : ∀ y : (Int32 × zM), o1 = .inr (.inl y) → V E RX2 cX2_merge 5 none d Q 54 [some (zK 2 0), some (zI v1), none, some (zI y.1), none] [] y.2 := fun y e => he y (he1 _ e)
    clear h hc1 he1 ih
    have h := h1
    clear h1
    unfold fX2_merge_L19 at h
    refine V_iload 21 rfl dX2_merge_19 rfl ?_
    refine V_iconst 22 rfl (v := (-1)) dX2_merge_21 (by decide) ?_
    refine V_icmp_eq 25 54 rfl dX2_merge_22 (by decide) (fun c => ?_) (fun c => ?_)
    · have h := zpos c h
      exact V_w (zsub_s (zsub_s (zsub_n (zsub_s (zsub_n zsub_0))))) (ke (s.1, s.2.2) (zinj h))
    · have h := zneg c h
      refine V_iload_n 26 rfl 3 dX2_merge_25 rfl rfl ?_
      refine V_bipush 28 rfl (v := 12) dX2_merge_26 (by decide) ?_
      refine V_icmp_ge 31 54 rfl dX2_merge_28 (by decide) (fun c => ?_) (fun c => ?_)
      · have h := zpos c h
        exact V_w (zsub_s (zsub_s (zsub_n (zsub_s (zsub_n zsub_0))))) (ke (s.1, s.2.2) (zinj h))
      · have h := zneg c h
        refine V_aload_n 32 rfl 2 dX2_merge_31 rfl rfl ?_
        refine V_iload_n 33 rfl 3 dX2_merge_32 rfl rfl ?_
        refine V_iload 35 rfl dX2_merge_33 rfl ?_
        obtain ⟨hi, h⟩ := zobd h
        refine V_iast 36 rfl dX2_merge_35 rfl hi ?_
        refine V_iinc 39 rfl (s.1 + 1) (L' := [some (zK 2 0), some (zI v1), some (zK 17 v2), some (zI (s.1 + 1)), some (zI s.2.1)]) dX2_merge_36 rfl rfl (by decide) rfl ?_
        refine V_aload_n 40 rfl 0 dX2_merge_39 rfl rfl ?_
        refine V_iload 42 rfl dX2_merge_40 rfl ?_
        obtain ⟨x2, h1, h⟩ := zbd h
        refine V_cV 45 rfl 0 [zI s.2.1] [] dX2_merge_42 cv_X2_92 (ctX2_dropHead (Nat.le_refl 0) h1) (Nat.le_trans (by decide) hd) rfl rfl (Nat.le_of_ble_eq_true rfl) zokn rfl ?_
        refine V_aload_n 46 rfl 0 dX2_merge_45 rfl rfl ?_
        obtain ⟨x3, h1, h⟩ := zbd h
        refine V_cV 49 rfl 1 [] [] dX2_merge_46 cv_X2_88 (ctX2_freeHead (Nat.le_refl 1) h1) (Nat.le_trans (by decide) hd) rfl rfl (Nat.le_of_ble_eq_true rfl) zoki rfl ?_
        refine V_istore 51 rfl (L' := [some (zK 2 0), some (zI v1), some (zK 17 v2), some (zI (s.1 + 1)), some (zI x3)]) dX2_merge_49 (by decide) rfl ?_
        refine V_goto 19 dX2_merge_51 (by decide) ?_
        exact kc ((s.1 + 1), x3, x2) (zinj h)
theorem wX2_merge {E : zE} {d : Nat} (hd : 2 ≤ d) {Q : Option zV → zM → Prop} {v1 : Int32} {mm : zM} {o : zM} (h : fX2_merge v1 mm = some o) (hQ : ∀ r, o = r → Q none r) : V E RX2 cX2_merge 5 none d Q 0 [some (zK 2 0), some (zI v1), none, none, none] [] mm := by
  unfold fX2_merge at h
  refine V_aload_n 1 rfl 0 dX2_merge_0 rfl rfl ?_
  refine V_getr 4 rfl 16 0 dX2_merge_1 fl_X2_11 rfl rfl rfl ?_
  refine V_iload_n 5 rfl 1 dX2_merge_4 rfl rfl ?_
  obtain ⟨hi, h⟩ := zobd h
  refine V_aald 6 rfl 17 (zn v1) dX2_merge_5 rfl (by decide) (by decide) rfl rfl hi ?_
  refine V_astore_n 7 rfl 2 (L' := [some (zK 2 0), some (zI v1), some (zK 17 (zn v1)), none, none]) dX2_merge_6 rfl (by decide) rfl ?_
  refine V_aload_n 8 rfl 2 dX2_merge_7 rfl rfl ?_
  refine V_iconst 9 rfl (v := 0) dX2_merge_8 (by decide) ?_
  refine V_iload_n 10 rfl 1 dX2_merge_9 rfl rfl ?_
  refine V_iast 11 rfl dX2_merge_10 rfl (by decide) ?_
  refine V_iconst 12 rfl (v := 1) dX2_merge_11 (by decide) ?_
  refine V_istore_n 13 rfl 3 (L' := [some (zK 2 0), some (zI v1), some (zK 17 (zn v1)), some (zI 1), none]) dX2_merge_12 rfl (by decide) rfl ?_
  refine V_aload_n 14 rfl 0 dX2_merge_13 rfl rfl ?_
  obtain ⟨x1, h1, h⟩ := zbd h
  refine V_cV 17 rfl 1 [] [] dX2_merge_14 cv_X2_88 (ctX2_freeHead (Nat.le_refl 1) h1) (Nat.le_trans (by decide) hd) rfl rfl (Nat.le_of_ble_eq_true rfl) zoki rfl ?_
  refine V_istore 19 rfl (L' := [some (zK 2 0), some (zI v1), some (zK 17 (zn v1)), some (zI 1), some (zI x1)]) dX2_merge_17 (by decide) rfl ?_
  obtain ⟨o8, h1, h⟩ := zbd h
  refine wX2_merge_L19 hd h1 (fun y4 e => ?_)
  have h := zcl_ e h
  refine V_aload_n 55 rfl 0 dX2_merge_54 rfl rfl ?_
  obtain ⟨x6, h1, h⟩ := zbd h
  refine V_cV 58 rfl 0 [] [] dX2_merge_55 cv_X2_95 (ctX2_firstRowLeft (Nat.le_refl 0) h1) (Nat.le_trans (by decide) hd) rfl rfl (Nat.le_of_ble_eq_true rfl) zoki rfl ?_
  refine V_istore 60 rfl (L' := [some (zK 2 0), some (zI v1), none, some (zI y4.1), some (zI x6)]) dX2_merge_58 (by decide) rfl ?_
  refine V_iload 62 rfl dX2_merge_60 rfl ?_
  refine V_iconst 63 rfl (v := (-1)) dX2_merge_62 (by decide) ?_
  refine V_icmp_ne 66 76 rfl dX2_merge_63 (by decide) (fun c => ?_) (fun c => ?_)
  · have h := zneg c h
    refine V_aload_n 77 rfl 0 dX2_merge_76 rfl rfl ?_
    refine V_iload_n 78 rfl 1 dX2_merge_77 rfl rfl ?_
    refine V_aload_n 79 rfl 0 dX2_merge_78 rfl rfl ?_
    refine V_getr 82 rfl 23 0 dX2_merge_79 fl_X2_29 rfl rfl rfl ?_
    refine V_iload 84 rfl dX2_merge_82 rfl ?_
    obtain ⟨hi, h⟩ := zobd h
    refine V_aald 85 rfl 24 (zn x6) dX2_merge_84 rfl (by decide) (by decide) rfl rfl hi ?_
    refine V_aload_n 86 rfl 0 dX2_merge_85 rfl rfl ?_
    refine V_getr 89 rfl 25 0 dX2_merge_86 fl_X2_32 rfl rfl rfl ?_
    refine V_iload 91 rfl dX2_merge_89 rfl ?_
    obtain ⟨hi, h⟩ := zobd h
    refine V_iald 92 rfl dX2_merge_91 rfl hi ?_
    obtain ⟨hi, h⟩ := zobd h
    refine V_iald 93 rfl dX2_merge_92 rfl hi ?_
    obtain ⟨x7, h1, h⟩ := zbd h
    refine V_cV 96 rfl 1 [zI v1, zI (gi y4.2 24 (zn x6) (zn ((gi y4.2 25 0 (zn x6)))))] [] dX2_merge_93 cv_X2_98 (ctX2_ringFrom (Nat.le_refl 1) h1) (Nat.le_trans (by decide) hd) rfl rfl (Nat.le_of_ble_eq_true rfl) zokn rfl ?_
    exact V_vret dX2_merge_96 rfl (hQ x7 (zinj h))
  · have h := zpos c h
    refine V_aload_n 67 rfl 0 dX2_merge_66 rfl rfl ?_
    refine V_getr 70 rfl 18 0 dX2_merge_67 fl_X2_16 rfl rfl rfl ?_
    refine V_iload_n 71 rfl 1 dX2_merge_70 rfl rfl ?_
    refine V_iload_n 72 rfl 3 dX2_merge_71 rfl rfl ?_
    obtain ⟨hi, h⟩ := zobd h
    refine V_iast 73 rfl dX2_merge_72 rfl hi ?_
    refine V_goto 96 dX2_merge_73 (by decide) ?_
    exact V_vret dX2_merge_96 rfl (hQ ((wi y4.2 18 0 (zn v1) y4.1)) (zinj h))
theorem ctX2_merge {E : zE} {d : Nat} (hd : 2 ≤ d) {v1 : Int32} {mm : zM} {o : zM} (h : fX2_merge v1 mm = some o) : zOC E yX2_merge cX2_merge 5 none d [zK 2 0, zI v1] mm none o :=
  zCT_of (by decide) (Nat.le_of_ble_eq_true rfl) (zk_k (zk_i zk_0)) rfl (wX2_merge hd h (fun r e => ⟨rfl, by rw [e]⟩))
def fX2_mergeAll_L2 (v1 : Nat) (s : (Int32 × zM)) : Option ((Int32 × zM) ⊕ (zM ⊕ Empty)) :=
  if (gi s.2 8 v1 1) ≤ s.1 then (some (.inr (.inl s.2))) else (zob (zin s.1 12) (zob (zin s.1 12) (zob (zin s.1 12) ((fX8_isType v1 s.1 ((wi ((wi ((wi s.2 18 0 (zn s.1) 0)) 21 0 (zn s.1) 0)) 22 0 (zn s.1) 0))).bind (fun x1 => if x1 = 0 then (some (.inl ((s.1 + 1), (wi ((wi ((wi s.2 18 0 (zn s.1) 0)) 21 0 (zn s.1) 0)) 22 0 (zn s.1) 0)))) else (zob (zin s.1 12) ((fX2_gatherOver s.1 ((2 * (12 * v1 + zn s.1))) ((wi ((wi ((wi s.2 18 0 (zn s.1) 0)) 21 0 (zn s.1) 0)) 22 0 (zn s.1) 0))).bind (fun x2 => (fX2_loadRows ((2 * (12 * v1 + zn s.1))) x2).bind (fun x3 => if x3.1 = 0 then (some (.inl ((s.1 + 1), x3.2))) else ((fX2_merge s.1 x3.2).bind (fun x4 => some (.inl ((s.1 + 1), x4)))))))))))))
def fX2_mergeAll (v1 : Nat) (mm : zM) : Option zM :=
  (zloop (fX2_mergeAll_L2 v1) zF (0, mm)).bind (fun o7 => zcase o7 (fun y5 => some y5) (fun r6 => r6.elim))
theorem wX2_mergeAll_L2 {E : zE} {d : Nat} (hd : 3 ≤ d) {Q : Option zV → zM → Prop} {v1 : Nat} {n : Nat} {s : (Int32 × zM)} {o : zM ⊕ Empty} (h : zloop (fX2_mergeAll_L2 v1) n s = some o) (he : ∀ y : zM, o = .inl y → V E RX2 cX2_mergeAll 4 none d Q 74 [none, none, none, none] [] y) : V E RX2 cX2_mergeAll 4 none d Q 2 [some (zK 2 0), some (zK 8 v1), some (zI s.1), none] [] s.2 := by
  induction n generalizing s with
  | zero => exact (zloop_0 h).elim
  | succ n ih =>
    obtain ⟨o1, h1, hc1, he1⟩ := zloop_s h
    have kc : ∀ s' : (Int32 × zM), o1 = .inl s' → V E RX2 cX2_mergeAll 4 none d Q 2 [some (zK 2 0), some (zK 8 v1), some (zI s'.1), none] [] s'.2 := fun s' e => ih (hc1 s' e)
    have ke : ∀ y : zM, o1 = .inr (.inl y) → V E RX2 cX2_mergeAll 4 none d Q 74 [none, none, none, none] [] y := fun y e => he y (he1 _ e)
    clear h hc1 he1 ih
    have h := h1
    clear h1
    unfold fX2_mergeAll_L2 at h
    refine V_iload_n 3 rfl 2 dX2_mergeAll_2 rfl rfl ?_
    refine V_aload_n 4 rfl 1 dX2_mergeAll_3 rfl rfl ?_
    refine V_geti 7 rfl dX2_mergeAll_4 fl_X2_41 rfl ?_
    refine V_icmp_ge 10 74 rfl dX2_mergeAll_7 (by decide) (fun c => ?_) (fun c => ?_)
    · have h := zpos c h
      exact V_w (zsub_n (zsub_n (zsub_n (zsub_s zsub_0)))) (ke s.2 (zinj h))
    · have h := zneg c h
      refine V_aload_n 11 rfl 0 dX2_mergeAll_10 rfl rfl ?_
      refine V_getr 14 rfl 18 0 dX2_mergeAll_11 fl_X2_16 rfl rfl rfl ?_
      refine V_iload_n 15 rfl 2 dX2_mergeAll_14 rfl rfl ?_
      refine V_iconst 16 rfl (v := 0) dX2_mergeAll_15 (by decide) ?_
      obtain ⟨hi, h⟩ := zobd h
      refine V_iast 17 rfl dX2_mergeAll_16 rfl hi ?_
      refine V_aload_n 18 rfl 0 dX2_mergeAll_17 rfl rfl ?_
      refine V_getr 21 rfl 21 0 dX2_mergeAll_18 fl_X2_23 rfl rfl rfl ?_
      refine V_iload_n 22 rfl 2 dX2_mergeAll_21 rfl rfl ?_
      refine V_iconst 23 rfl (v := 0) dX2_mergeAll_22 (by decide) ?_
      obtain ⟨hi, h⟩ := zobd h
      refine V_iast 24 rfl dX2_mergeAll_23 rfl hi ?_
      refine V_aload_n 25 rfl 0 dX2_mergeAll_24 rfl rfl ?_
      refine V_getr 28 rfl 22 0 dX2_mergeAll_25 fl_X2_26 rfl rfl rfl ?_
      refine V_iload_n 29 rfl 2 dX2_mergeAll_28 rfl rfl ?_
      refine V_iconst 30 rfl (v := 0) dX2_mergeAll_29 (by decide) ?_
      obtain ⟨hi, h⟩ := zobd h
      refine V_iast 31 rfl dX2_mergeAll_30 rfl hi ?_
      refine V_aload_n 32 rfl 1 dX2_mergeAll_31 rfl rfl ?_
      refine V_iload_n 33 rfl 2 dX2_mergeAll_32 rfl rfl ?_
      obtain ⟨x1, h1, h⟩ := zbd h
      refine V_cV 36 rfl 1 [zI s.1] [] dX2_mergeAll_33 cv_X2_47 (ctX8_isType (Nat.le_refl 1) h1) (Nat.le_trans (by decide) hd) rfl rfl (Nat.le_of_ble_eq_true rfl) zoki rfl ?_
      refine V_if_eq 39 68 rfl dX2_mergeAll_36 (by decide) (fun c => ?_) (fun c => ?_)
      · have h := zpos c h
        refine V_iinc 71 rfl (s.1 + 1) (L' := [some (zK 2 0), some (zK 8 v1), some (zI (s.1 + 1)), none]) dX2_mergeAll_68 rfl rfl (by decide) rfl ?_
        refine V_goto 2 dX2_mergeAll_71 (by decide) ?_
        exact kc ((s.1 + 1), (wi ((wi ((wi s.2 18 0 (zn s.1) 0)) 21 0 (zn s.1) 0)) 22 0 (zn s.1) 0)) (zinj h)
      · have h := zneg c h
        refine V_aload_n 40 rfl 1 dX2_mergeAll_39 rfl rfl ?_
        refine V_getr 43 rfl 35 v1 dX2_mergeAll_40 fl_X2_51 rfl rfl rfl ?_
        refine V_iload_n 44 rfl 2 dX2_mergeAll_43 rfl rfl ?_
        obtain ⟨hi, h⟩ := zobd h
        refine V_aald 45 rfl 7 (12 * v1 + zn s.1) dX2_mergeAll_44 rfl (by decide) (by decide) rfl rfl hi ?_
        refine V_getr 48 rfl 5 (2 * (12 * v1 + zn s.1)) dX2_mergeAll_45 fl_X2_55 rfl rfl rfl ?_
        refine V_astore_n 49 rfl 3 (L' := [some (zK 2 0), some (zK 8 v1), some (zI s.1), some (zK 5 (2 * (12 * v1 + zn s.1)))]) dX2_mergeAll_48 rfl (by decide) rfl ?_
        refine V_aload_n 50 rfl 0 dX2_mergeAll_49 rfl rfl ?_
        refine V_iload_n 51 rfl 2 dX2_mergeAll_50 rfl rfl ?_
        refine V_aload_n 52 rfl 3 dX2_mergeAll_51 rfl rfl ?_
        obtain ⟨x2, h1, h⟩ := zbd h
        refine V_cV 55 rfl 0 [zI s.1, zK 5 (2 * (12 * v1 + zn s.1))] [] dX2_mergeAll_52 cv_X2_61 (ctX2_gatherOver (Nat.le_refl 0) h1) (Nat.le_trans (by decide) hd) rfl rfl (Nat.le_of_ble_eq_true rfl) zokn rfl ?_
        refine V_aload_n 56 rfl 0 dX2_mergeAll_55 rfl rfl ?_
        refine V_aload_n 57 rfl 3 dX2_mergeAll_56 rfl rfl ?_
        obtain ⟨x3, h1, h⟩ := zbd h
        refine V_cV 60 rfl 1 [zK 5 (2 * (12 * v1 + zn s.1))] [] dX2_mergeAll_57 cv_X2_65 (ctX2_loadRows (Nat.le_refl 1) h1) (Nat.le_trans (by decide) hd) rfl rfl (Nat.le_of_ble_eq_true rfl) zoki rfl ?_
        refine V_if_eq 63 68 rfl dX2_mergeAll_60 (by decide) (fun c => ?_) (fun c => ?_)
        · have h := zpos c h
          refine V_iinc 71 rfl (s.1 + 1) (L' := [some (zK 2 0), some (zK 8 v1), some (zI (s.1 + 1)), some (zK 5 (2 * (12 * v1 + zn s.1)))]) dX2_mergeAll_68 rfl rfl (by decide) rfl ?_
          refine V_goto 2 dX2_mergeAll_71 (by decide) ?_
          exact V_w (zsub_s (zsub_s (zsub_s (zsub_n zsub_0)))) (kc ((s.1 + 1), x3.2) (zinj h))
        · have h := zneg c h
          refine V_aload_n 64 rfl 0 dX2_mergeAll_63 rfl rfl ?_
          refine V_iload_n 65 rfl 2 dX2_mergeAll_64 rfl rfl ?_
          obtain ⟨x4, h1, h⟩ := zbd h
          refine V_cV 68 rfl 2 [zI s.1] [] dX2_mergeAll_65 cv_X2_69 (ctX2_merge (Nat.le_refl 2) h1) (Nat.le_trans (by decide) hd) rfl rfl (Nat.le_of_ble_eq_true rfl) zokn rfl ?_
          refine V_iinc 71 rfl (s.1 + 1) (L' := [some (zK 2 0), some (zK 8 v1), some (zI (s.1 + 1)), some (zK 5 (2 * (12 * v1 + zn s.1)))]) dX2_mergeAll_68 rfl rfl (by decide) rfl ?_
          refine V_goto 2 dX2_mergeAll_71 (by decide) ?_
          exact V_w (zsub_s (zsub_s (zsub_s (zsub_n zsub_0)))) (kc ((s.1 + 1), x4) (zinj h))
theorem wX2_mergeAll {E : zE} {d : Nat} (hd : 3 ≤ d) {Q : Option zV → zM → Prop} {v1 : Nat} {mm : zM} {o : zM} (h : fX2_mergeAll v1 mm = some o) (hQ : ∀ r, o = r → Q none r) : V E RX2 cX2_mergeAll 4 none d Q 0 [some (zK 2 0), some (zK 8 v1), none, none] [] mm := by
  unfold fX2_mergeAll at h
  refine V_iconst 1 rfl (v := 0) dX2_mergeAll_0 (by decide) ?_
  refine V_istore_n 2 rfl 2 (L' := [some (zK 2 0), some (zK 8 v1), some (zI 0), none]) dX2_mergeAll_1 rfl (by decide) rfl ?_
  obtain ⟨o7, h1, h⟩ := zbd h
  refine wX2_mergeAll_L2 hd h1 (fun y5 e => ?_)
  have h := zcl_ e h
  exact V_vret dX2_mergeAll_74 rfl (hQ y5 (zinj h))
theorem ctX2_mergeAll {E : zE} {d : Nat} (hd : 3 ≤ d) {v1 : Nat} {mm : zM} {o : zM} (h : fX2_mergeAll v1 mm = some o) : zOC E yX2_mergeAll cX2_mergeAll 4 none d [zK 2 0, zK 8 v1] mm none o :=
  zCT_of (by decide) (Nat.le_of_ble_eq_true rfl) (zk_k (zk_k zk_0)) rfl (wX2_mergeAll hd h (fun r e => ⟨rfl, by rw [e]⟩))
def fX9_settle (mm : zM) : Option zM :=
  if (gi mm 9 0 12) = 0 then (some mm) else ((gr mm 9 2).bind (fun j1 => (fX0_layAll j1 mm).bind (fun x2 => (gr x2 9 2).bind (fun j3 => (fX2_mergeAll j3 x2).bind (fun x4 => some ((wi x4 9 0 12 0)))))))
theorem wX9_settle {E : zE} {d : Nat} (hd : 4 ≤ d) {Q : Option zV → zM → Prop} {mm : zM} {o : zM} (h : fX9_settle mm = some o) (hQ : ∀ r, o = r → Q none r) : V E RX9 cX9_settle 1 none d Q 0 [some (zK 9 0)] [] mm := by
  unfold fX9_settle at h
  refine V_aload_n 1 rfl 0 dX9_settle_0 rfl rfl ?_
  refine V_geti 4 rfl dX9_settle_1 fl_X9_90 rfl ?_
  refine V_if_eq 7 34 rfl dX9_settle_4 (by decide) (fun c => ?_) (fun c => ?_)
  · have h := zpos c h
    exact V_vret dX9_settle_34 rfl (hQ mm (zinj h))
  · have h := zneg c h
    refine V_aload_n 8 rfl 0 dX9_settle_7 rfl rfl ?_
    refine V_getr 11 rfl 0 0 dX9_settle_8 fl_X9_44 rfl rfl rfl ?_
    refine V_aload_n 12 rfl 0 dX9_settle_11 rfl rfl ?_
    obtain ⟨j1, hj, h⟩ := zbd h
    refine V_getm 15 rfl 8 dX9_settle_12 fl_X9_16 rfl rfl hj ?_
    obtain ⟨x2, h1, h⟩ := zbd h
    refine V_cV 18 rfl 3 [zK 8 j1] [] dX9_settle_15 cv_X9_346 (ctX0_layAll (Nat.le_refl 3) h1) (Nat.le_trans (by decide) hd) rfl rfl (Nat.le_of_ble_eq_true rfl) zokn rfl ?_
    refine V_aload_n 19 rfl 0 dX9_settle_18 rfl rfl ?_
    refine V_getr 22 rfl 2 0 dX9_settle_19 fl_X9_51 rfl rfl rfl ?_
    refine V_aload_n 23 rfl 0 dX9_settle_22 rfl rfl ?_
    obtain ⟨j3, hj, h⟩ := zbd h
    refine V_getm 26 rfl 8 dX9_settle_23 fl_X9_16 rfl rfl hj ?_
    obtain ⟨x4, h1, h⟩ := zbd h
    refine V_cV 29 rfl 3 [zK 8 j3] [] dX9_settle_26 cv_X9_349 (ctX2_mergeAll (Nat.le_refl 3) h1) (Nat.le_trans (by decide) hd) rfl rfl (Nat.le_of_ble_eq_true rfl) zokn rfl ?_
    refine V_aload_n 30 rfl 0 dX9_settle_29 rfl rfl ?_
    refine V_iconst 31 rfl (v := 0) dX9_settle_30 (by decide) ?_
    refine V_puti 34 rfl dX9_settle_31 fw_X9_90 rfl rfl rfl ?_
    exact V_vret dX9_settle_34 rfl (hQ ((wi x4 9 0 12 0)) (zinj h))
theorem ctX9_settle {E : zE} {d : Nat} (hd : 4 ≤ d) {mm : zM} {o : zM} (h : fX9_settle mm = some o) : zOC E yX9_settle cX9_settle 1 none d [zK 9 0] mm none o :=
  zCT_of (by decide) (Nat.le_of_ble_eq_true rfl) (zk_k zk_0) rfl (wX9_settle hd h (fun r e => ⟨rfl, by rw [e]⟩))
def fX0_kindOf (v1 : Int32) (v2 : Int32) (mm : zM) : Option Int32 :=
  zob (zin ((((v1 * 26)) + v2)) 312) (some ((gi mm 11 0 (zn ((((v1 * 26)) + v2))))))
theorem wX0_kindOf {E : zE} {d : Nat} (hd : 0 ≤ d) {Q : Option zV → zM → Prop} {v1 : Int32} {v2 : Int32} {mm : zM} {o : Int32} (h : fX0_kindOf v1 v2 mm = some o) (hQ : ∀ r, o = r → Q (some (zI r)) mm) : V E RX0 cX0_kindOf 3 (some .int) d Q 0 [some (zK 0 0), some (zI v1), some (zI v2)] [] mm := by
  unfold fX0_kindOf at h
  refine V_aload_n 1 rfl 0 dX0_kindOf_0 rfl rfl ?_
  refine V_getr 4 rfl 11 0 dX0_kindOf_1 fl_X0_9 rfl rfl rfl ?_
  refine V_iload_n 5 rfl 1 dX0_kindOf_4 rfl rfl ?_
  refine V_bipush 7 rfl (v := 26) dX0_kindOf_5 (by decide) ?_
  refine V_imul 8 rfl dX0_kindOf_7 ?_
  refine V_iload_n 9 rfl 2 dX0_kindOf_8 rfl rfl ?_
  refine V_iadd 10 rfl dX0_kindOf_9 ?_
  obtain ⟨hi, h⟩ := zobd h
  refine V_iald 11 rfl dX0_kindOf_10 rfl hi ?_
  exact V_iret dX0_kindOf_11 rfl (hQ ((gi mm 11 0 (zn ((((v1 * 26)) + v2))))) (zinj h))
theorem ctX0_kindOf {E : zE} {d : Nat} (hd : 0 ≤ d) {v1 : Int32} {v2 : Int32} {mm : zM} {o : Int32} (h : fX0_kindOf v1 v2 mm = some o) : zOC E yX0_kindOf cX0_kindOf 3 (some .int) d [zK 0 0, zI v1, zI v2] mm (some (zI o)) mm :=
  zCT_of (by decide) (Nat.le_of_ble_eq_true rfl) (zk_k (zk_i (zk_i zk_0))) rfl (wX0_kindOf hd h (fun r e => ⟨by rw [e], rfl⟩))
def fX0_bitsOf_L5 (v1 : Int32) (v2 : Int32) (mm : zM) (s : (Int32 × Int32)) : Option ((Int32 × Int32) ⊕ (Int32 ⊕ Empty)) :=
  if 26 ≤ s.2 then (some (.inr (.inl s.1))) else ((fX0_kindOf v1 s.2 mm).bind (fun x1 => if x1 = v2 then (some (.inl ((s.1 ||| ((1 <<< (s.2 &&& 31)))), (s.2 + 1)))) else (some (.inl (s.1, (s.2 + 1))))))
def fX0_bitsOf (v1 : Int32) (v2 : Int32) (mm : zM) : Option Int32 :=
  (zloop (fX0_bitsOf_L5 v1 v2 mm) zF (0, 0)).bind (fun o4 => zcase o4 (fun y2 => some y2) (fun r3 => r3.elim))
theorem wX0_bitsOf_L5 {E : zE} {d : Nat} (hd : 1 ≤ d) {Q : Option zV → zM → Prop} {v1 : Int32} {v2 : Int32} {mm : zM} {n : Nat} {s : (Int32 × Int32)} {o : Int32 ⊕ Empty} (h : zloop (fX0_bitsOf_L5 v1 v2 mm) n s = some o) (he : ∀ y : Int32, o = .inl y → V E RX0 cX0_bitsOf 5 (some .int) d Q 36 [none, none, none, some (zI y), none] [] mm) : V E RX0 cX0_bitsOf 5 (some .int) d Q 5 [some (zK 0 0), some (zI v1), some (zI v2), some (zI s.1), some (zI s.2)] [] mm := by
  induction n generalizing s with
  | zero => exact (zloop_0 h).elim
  | succ n ih =>
    obtain ⟨o1, h1, hc1, he1⟩ := zloop_s h
    have kc : ∀ s' : (Int32 × Int32), o1 = .inl s' → V E RX0 cX0_bitsOf 5 (some .int) d Q 5 [some (zK 0 0), some (zI v1), some (zI v2), some (zI s'.1), some (zI s'.2)] [] mm := fun s' e => ih (hc1 s' e)
    have ke : ∀ y : Int32, o1 = .inr (.inl y) → V E RX0 cX0_bitsOf 5 (some .int) d Q 36 [none, none, none, some (zI y), none] [] mm := fun y e => he y (he1 _ e)
    clear h hc1 he1 ih
    have h := h1
    clear h1
    unfold fX0_bitsOf_L5 at h
    refine V_iload 7 rfl dX0_bitsOf_5 rfl ?_
    refine V_bipush 9 rfl (v := 26) dX0_bitsOf_7 (by decide) ?_
    refine V_icmp_ge 12 36 rfl dX0_bitsOf_9 (by decide) (fun c => ?_) (fun c => ?_)
    · have h := zpos c h
      exact V_w (zsub_n (zsub_n (zsub_n (zsub_s (zsub_n zsub_0))))) (ke s.1 (zinj h))
    · have h := zneg c h
      refine V_aload_n 13 rfl 0 dX0_bitsOf_12 rfl rfl ?_
      refine V_iload_n 14 rfl 1 dX0_bitsOf_13 rfl rfl ?_
      refine V_iload 16 rfl dX0_bitsOf_14 rfl ?_
      obtain ⟨x1, h1, h⟩ := zbd h
      refine V_cV 19 rfl 0 [zI v1, zI s.2] [] dX0_bitsOf_16 cv_X0_76 (ctX0_kindOf (Nat.le_refl 0) h1) (Nat.le_trans (by decide) hd) rfl rfl (Nat.le_of_ble_eq_true rfl) zoki rfl ?_
      refine V_iload_n 20 rfl 2 dX0_bitsOf_19 rfl rfl ?_
      refine V_icmp_ne 23 30 rfl dX0_bitsOf_20 (by decide) (fun c => ?_) (fun c => ?_)
      · have h := zneg c h
        refine V_iinc 33 rfl (s.2 + 1) (L' := [some (zK 0 0), some (zI v1), some (zI v2), some (zI s.1), some (zI (s.2 + 1))]) dX0_bitsOf_30 rfl rfl (by decide) rfl ?_
        refine V_goto 5 dX0_bitsOf_33 (by decide) ?_
        exact kc (s.1, (s.2 + 1)) (zinj h)
      · have h := zpos c h
        refine V_iload_n 24 rfl 3 dX0_bitsOf_23 rfl rfl ?_
        refine V_iconst 25 rfl (v := 1) dX0_bitsOf_24 (by decide) ?_
        refine V_iload 27 rfl dX0_bitsOf_25 rfl ?_
        refine V_ishl 28 rfl dX0_bitsOf_27 ?_
        refine V_ior 29 rfl dX0_bitsOf_28 ?_
        refine V_istore_n 30 rfl 3 (L' := [some (zK 0 0), some (zI v1), some (zI v2), some (zI (s.1 ||| ((1 <<< (s.2 &&& 31))))), some (zI s.2)]) dX0_bitsOf_29 rfl (by decide) rfl ?_
        refine V_iinc 33 rfl (s.2 + 1) (L' := [some (zK 0 0), some (zI v1), some (zI v2), some (zI (s.1 ||| ((1 <<< (s.2 &&& 31))))), some (zI (s.2 + 1))]) dX0_bitsOf_30 rfl rfl (by decide) rfl ?_
        refine V_goto 5 dX0_bitsOf_33 (by decide) ?_
        exact kc ((s.1 ||| ((1 <<< (s.2 &&& 31)))), (s.2 + 1)) (zinj h)
theorem wX0_bitsOf {E : zE} {d : Nat} (hd : 1 ≤ d) {Q : Option zV → zM → Prop} {v1 : Int32} {v2 : Int32} {mm : zM} {o : Int32} (h : fX0_bitsOf v1 v2 mm = some o) (hQ : ∀ r, o = r → Q (some (zI r)) mm) : V E RX0 cX0_bitsOf 5 (some .int) d Q 0 [some (zK 0 0), some (zI v1), some (zI v2), none, none] [] mm := by
  unfold fX0_bitsOf at h
  refine V_iconst 1 rfl (v := 0) dX0_bitsOf_0 (by decide) ?_
  refine V_istore_n 2 rfl 3 (L' := [some (zK 0 0), some (zI v1), some (zI v2), some (zI 0), none]) dX0_bitsOf_1 rfl (by decide) rfl ?_
  refine V_iconst 3 rfl (v := 0) dX0_bitsOf_2 (by decide) ?_
  refine V_istore 5 rfl (L' := [some (zK 0 0), some (zI v1), some (zI v2), some (zI 0), some (zI 0)]) dX0_bitsOf_3 (by decide) rfl ?_
  obtain ⟨o4, h1, h⟩ := zbd h
  refine wX0_bitsOf_L5 hd h1 (fun y2 e => ?_)
  have h := zcl_ e h
  refine V_iload_n 37 rfl 3 dX0_bitsOf_36 rfl rfl ?_
  exact V_iret dX0_bitsOf_37 rfl (hQ y2 (zinj h))
theorem ctX0_bitsOf {E : zE} {d : Nat} (hd : 1 ≤ d) {v1 : Int32} {v2 : Int32} {mm : zM} {o : Int32} (h : fX0_bitsOf v1 v2 mm = some o) : zOC E yX0_bitsOf cX0_bitsOf 5 (some .int) d [zK 0 0, zI v1, zI v2] mm (some (zI o)) mm :=
  zCT_of (by decide) (Nat.le_of_ble_eq_true rfl) (zk_k (zk_i (zk_i zk_0))) rfl (wX0_bitsOf hd h (fun r e => ⟨by rw [e], rfl⟩))
def fX0_bitsOfAll (v1 : Int32) (mm : zM) : Option Int32 :=
  (fX0_bitsOf v1 1 mm).bind (fun x1 => (fX0_bitsOf v1 2 mm).bind (fun x2 => (fX0_bitsOf v1 3 mm).bind (fun x3 => some ((((x1 ||| x2)) ||| x3)))))
theorem wX0_bitsOfAll {E : zE} {d : Nat} (hd : 2 ≤ d) {Q : Option zV → zM → Prop} {v1 : Int32} {mm : zM} {o : Int32} (h : fX0_bitsOfAll v1 mm = some o) (hQ : ∀ r, o = r → Q (some (zI r)) mm) : V E RX0 cX0_bitsOfAll 2 (some .int) d Q 0 [some (zK 0 0), some (zI v1)] [] mm := by
  unfold fX0_bitsOfAll at h
  refine V_aload_n 1 rfl 0 dX0_bitsOfAll_0 rfl rfl ?_
  refine V_iload_n 2 rfl 1 dX0_bitsOfAll_1 rfl rfl ?_
  refine V_iconst 3 rfl (v := 1) dX0_bitsOfAll_2 (by decide) ?_
  obtain ⟨x1, h1, h⟩ := zbd h
  refine V_cV 6 rfl 1 [zI v1, zI 1] [] dX0_bitsOfAll_3 cv_X0_79 (ctX0_bitsOf (Nat.le_refl 1) h1) (Nat.le_trans (by decide) hd) rfl rfl (Nat.le_of_ble_eq_true rfl) zoki rfl ?_
  refine V_aload_n 7 rfl 0 dX0_bitsOfAll_6 rfl rfl ?_
  refine V_iload_n 8 rfl 1 dX0_bitsOfAll_7 rfl rfl ?_
  refine V_iconst 9 rfl (v := 2) dX0_bitsOfAll_8 (by decide) ?_
  obtain ⟨x2, h1, h⟩ := zbd h
  refine V_cV 12 rfl 1 [zI v1, zI 2] [zI x1] dX0_bitsOfAll_9 cv_X0_79 (ctX0_bitsOf (Nat.le_refl 1) h1) (Nat.le_trans (by decide) hd) rfl rfl (Nat.le_of_ble_eq_true rfl) zoki rfl ?_
  refine V_ior 13 rfl dX0_bitsOfAll_12 ?_
  refine V_aload_n 14 rfl 0 dX0_bitsOfAll_13 rfl rfl ?_
  refine V_iload_n 15 rfl 1 dX0_bitsOfAll_14 rfl rfl ?_
  refine V_iconst 16 rfl (v := 3) dX0_bitsOfAll_15 (by decide) ?_
  obtain ⟨x3, h1, h⟩ := zbd h
  refine V_cV 19 rfl 1 [zI v1, zI 3] [zI (x1 ||| x2)] dX0_bitsOfAll_16 cv_X0_79 (ctX0_bitsOf (Nat.le_refl 1) h1) (Nat.le_trans (by decide) hd) rfl rfl (Nat.le_of_ble_eq_true rfl) zoki rfl ?_
  refine V_ior 20 rfl dX0_bitsOfAll_19 ?_
  exact V_iret dX0_bitsOfAll_20 rfl (hQ ((((x1 ||| x2)) ||| x3)) (zinj h))
theorem ctX0_bitsOfAll {E : zE} {d : Nat} (hd : 2 ≤ d) {v1 : Int32} {mm : zM} {o : Int32} (h : fX0_bitsOfAll v1 mm = some o) : zOC E yX0_bitsOfAll cX0_bitsOfAll 2 (some .int) d [zK 0 0, zI v1] mm (some (zI o)) mm :=
  zCT_of (by decide) (Nat.le_of_ble_eq_true rfl) (zk_k (zk_i zk_0)) rfl (wX0_bitsOfAll hd h (fun r e => ⟨by rw [e], rfl⟩))
def fX7_requiredBits_L4 (v0 : Nat) (mm : zM) (s : (Int32 × Int32)) : Option ((Int32 × Int32) ⊕ (Int32 ⊕ Empty)) :=
  if 26 ≤ s.2 then (some (.inr (.inl s.1))) else ((fX7_requires v0 s.2 mm).bind (fun x1 => if x1 = 0 then (some (.inl (s.1, (s.2 + 1)))) else (some (.inl ((s.1 ||| ((1 <<< (s.2 &&& 31)))), (s.2 + 1))))))
def fX7_requiredBits (v0 : Nat) (mm : zM) : Option Int32 :=
  (zloop (fX7_requiredBits_L4 v0 mm) zF (0, 0)).bind (fun o4 => zcase o4 (fun y2 => some y2) (fun r3 => r3.elim))
theorem wX7_requiredBits_L4 {E : zE} {d : Nat} (hd : 1 ≤ d) {Q : Option zV → zM → Prop} {v0 : Nat} {mm : zM} {n : Nat} {s : (Int32 × Int32)} {o : Int32 ⊕ Empty} (h : zloop (fX7_requiredBits_L4 v0 mm) n s = some o) (he : ∀ y : Int32, o = .inl y → V E RX7 cX7_requiredBits 3 (some .int) d Q 30 [none, some (zI y), none] [] mm) : V E RX7 cX7_requiredBits 3 (some .int) d Q 4 [some (zK 7 v0), some (zI s.1), some (zI s.2)] [] mm := by
  induction n generalizing s with
  | zero => exact (zloop_0 h).elim
  | succ n ih =>
    obtain ⟨o1, h1, hc1, he1⟩ := zloop_s h
    have kc : ∀ s' : (Int32 × Int32), o1 = .inl s' → V E RX7 cX7_requiredBits 3 (some .int) d Q 4 [some (zK 7 v0), some (zI s'.1), some (zI s'.2)] [] mm := fun s' e => ih (hc1 s' e)
    have ke : ∀ y : Int32, o1 = .inr (.inl y) → V E RX7 cX7_requiredBits 3 (some .int) d Q 30 [none, some (zI y), none] [] mm := fun y e => he y (he1 _ e)
    clear h hc1 he1 ih
    have h := h1
    clear h1
    unfold fX7_requiredBits_L4 at h
    refine V_iload_n 5 rfl 2 dX7_requiredBits_4 rfl rfl ?_
    refine V_bipush 7 rfl (v := 26) dX7_requiredBits_5 (by decide) ?_
    refine V_icmp_ge 10 30 rfl dX7_requiredBits_7 (by decide) (fun c => ?_) (fun c => ?_)
    · have h := zpos c h
      exact V_w (zsub_n (zsub_s (zsub_n zsub_0))) (ke s.1 (zinj h))
    · have h := zneg c h
      refine V_aload_n 11 rfl 0 dX7_requiredBits_10 rfl rfl ?_
      refine V_iload_n 12 rfl 2 dX7_requiredBits_11 rfl rfl ?_
      obtain ⟨x1, h1, h⟩ := zbd h
      refine V_cV 15 rfl 0 [zI s.2] [] dX7_requiredBits_12 cv_X7_58 (ctX7_requires (Nat.le_refl 0) h1) (Nat.le_trans (by decide) hd) rfl rfl (Nat.le_of_ble_eq_true rfl) zoki rfl ?_
      refine V_if_eq 18 24 rfl dX7_requiredBits_15 (by decide) (fun c => ?_) (fun c => ?_)
      · have h := zpos c h
        refine V_iinc 27 rfl (s.2 + 1) (L' := [some (zK 7 v0), some (zI s.1), some (zI (s.2 + 1))]) dX7_requiredBits_24 rfl rfl (by decide) rfl ?_
        refine V_goto 4 dX7_requiredBits_27 (by decide) ?_
        exact kc (s.1, (s.2 + 1)) (zinj h)
      · have h := zneg c h
        refine V_iload_n 19 rfl 1 dX7_requiredBits_18 rfl rfl ?_
        refine V_iconst 20 rfl (v := 1) dX7_requiredBits_19 (by decide) ?_
        refine V_iload_n 21 rfl 2 dX7_requiredBits_20 rfl rfl ?_
        refine V_ishl 22 rfl dX7_requiredBits_21 ?_
        refine V_ior 23 rfl dX7_requiredBits_22 ?_
        refine V_istore_n 24 rfl 1 (L' := [some (zK 7 v0), some (zI (s.1 ||| ((1 <<< (s.2 &&& 31))))), some (zI s.2)]) dX7_requiredBits_23 rfl (by decide) rfl ?_
        refine V_iinc 27 rfl (s.2 + 1) (L' := [some (zK 7 v0), some (zI (s.1 ||| ((1 <<< (s.2 &&& 31))))), some (zI (s.2 + 1))]) dX7_requiredBits_24 rfl rfl (by decide) rfl ?_
        refine V_goto 4 dX7_requiredBits_27 (by decide) ?_
        exact kc ((s.1 ||| ((1 <<< (s.2 &&& 31)))), (s.2 + 1)) (zinj h)
theorem wX7_requiredBits {E : zE} {d : Nat} (hd : 1 ≤ d) {Q : Option zV → zM → Prop} {v0 : Nat} {mm : zM} {o : Int32} (h : fX7_requiredBits v0 mm = some o) (hQ : ∀ r, o = r → Q (some (zI r)) mm) : V E RX7 cX7_requiredBits 3 (some .int) d Q 0 [some (zK 7 v0), none, none] [] mm := by
  unfold fX7_requiredBits at h
  refine V_iconst 1 rfl (v := 0) dX7_requiredBits_0 (by decide) ?_
  refine V_istore_n 2 rfl 1 (L' := [some (zK 7 v0), some (zI 0), none]) dX7_requiredBits_1 rfl (by decide) rfl ?_
  refine V_iconst 3 rfl (v := 0) dX7_requiredBits_2 (by decide) ?_
  refine V_istore_n 4 rfl 2 (L' := [some (zK 7 v0), some (zI 0), some (zI 0)]) dX7_requiredBits_3 rfl (by decide) rfl ?_
  obtain ⟨o4, h1, h⟩ := zbd h
  refine wX7_requiredBits_L4 hd h1 (fun y2 e => ?_)
  have h := zcl_ e h
  refine V_iload_n 31 rfl 1 dX7_requiredBits_30 rfl rfl ?_
  exact V_iret dX7_requiredBits_31 rfl (hQ y2 (zinj h))
theorem ctX7_requiredBits {E : zE} {d : Nat} (hd : 1 ≤ d) {v0 : Nat} {mm : zM} {o : Int32} (h : fX7_requiredBits v0 mm = some o) : zOC E yX7_requiredBits cX7_requiredBits 3 (some .int) d [zK 7 v0] mm (some (zI o)) mm :=
  zCT_of (by decide) (Nat.le_of_ble_eq_true rfl) (zk_k zk_0) rfl (wX7_requiredBits hd h (fun r e => ⟨by rw [e], rfl⟩))
