def fX5_add (v0 : Nat) (v1 : Int32) (mm : zM) : Option zM :=
  if 4 ≤ (gi mm 5 v0 1) then (some mm) else (zob (zin ((gi mm 5 v0 1)) 4) (some ((wi ((wi mm 30 v0 (zn ((gi mm 5 v0 1))) v1)) 5 v0 1 ((((gi ((wi mm 30 v0 (zn ((gi mm 5 v0 1))) v1)) 5 v0 1)) + 1))))))
theorem wX5_add {E : zE} {d : Nat} (hd : 0 ≤ d) {Q : Option zV → zM → Prop} {v0 : Nat} {v1 : Int32} {mm : zM} {o : zM} (h : fX5_add v0 v1 mm = some o) (hQ : ∀ r, o = r → Q none r) : V E RX5 cX5_add 2 none d Q 0 [some (zK 5 v0), some (zI v1)] [] mm := by
  unfold fX5_add at h
  refine V_aload_n 1 rfl 0 dX5_add_0 rfl rfl ?_
  refine V_geti 4 rfl dX5_add_1 fl_X5_15 rfl ?_
  refine V_iconst 5 rfl (v := 4) dX5_add_4 (by decide) ?_
  refine V_icmp_ge 8 28 rfl dX5_add_5 (by decide) (fun c => ?_) (fun c => ?_)
  · have h := zpos c h
    exact V_vret dX5_add_28 rfl (hQ mm (zinj h))
  · have h := zneg c h
    refine V_aload_n 9 rfl 0 dX5_add_8 rfl rfl ?_
    refine V_getr 12 rfl 30 v0 dX5_add_9 fl_X5_9 rfl rfl rfl ?_
    refine V_aload_n 13 rfl 0 dX5_add_12 rfl rfl ?_
    refine V_geti 16 rfl dX5_add_13 fl_X5_15 rfl ?_
    refine V_iload_n 17 rfl 1 dX5_add_16 rfl rfl ?_
    obtain ⟨hi, h⟩ := zobd h
    refine V_iast 18 rfl dX5_add_17 rfl hi ?_
    refine V_aload_n 19 rfl 0 dX5_add_18 rfl rfl ?_
    refine V_dup 20 rfl dX5_add_19 rfl ?_
    refine V_geti 23 rfl dX5_add_20 fl_X5_15 rfl ?_
    refine V_iconst 24 rfl (v := 1) dX5_add_23 (by decide) ?_
    refine V_iadd 25 rfl dX5_add_24 ?_
    refine V_puti 28 rfl dX5_add_25 fw_X5_15 rfl rfl rfl ?_
    exact V_vret dX5_add_28 rfl (hQ ((wi ((wi mm 30 v0 (zn ((gi mm 5 v0 1))) v1)) 5 v0 1 ((((gi ((wi mm 30 v0 (zn ((gi mm 5 v0 1))) v1)) 5 v0 1)) + 1)))) (zinj h))
theorem ctX5_add {E : zE} {d : Nat} (hd : 0 ≤ d) {v0 : Nat} {v1 : Int32} {mm : zM} {o : zM} (h : fX5_add v0 v1 mm = some o) : zOC E yX5_add cX5_add 2 none d [zK 5 v0, zI v1] mm none o :=
  zCT_of (by decide) (Nat.le_of_ble_eq_true rfl) (zk_k (zk_i zk_0)) rfl (wX5_add hd h (fun r e => ⟨rfl, by rw [e]⟩))
def fX7_addTrait_L31 (v0 : Nat) (v2 : Int32) (s : (Int32 × zM)) : Option ((Int32 × zM) ⊕ (zM ⊕ Empty)) :=
  if 26 ≤ s.1 then (some (.inr (.inl s.2))) else (zob (zin ((((v2 * 26)) + s.1)) 104) (some (.inl ((s.1 + 1), (wi s.2 34 v0 (zn ((((v2 * 26)) + s.1))) s.1)))))
def fX7_addTrait (v0 : Nat) (v1 : Int32) (mm : zM) : Option zM :=
  if (gi mm 5 (2 * v0 + 1) 1) < 4 then ((fX5_add ((2 * v0 + 1)) v1 mm).bind (fun x1 => zob (zin ((gi mm 5 (2 * v0 + 1) 1)) 4) ((zloop (fX7_addTrait_L31 v0 ((gi mm 5 (2 * v0 + 1) 1))) zF (0, (wi x1 31 v0 (zn ((gi mm 5 (2 * v0 + 1) 1))) 0))).bind (fun o4 => zcase o4 (fun y2 => some y2) (fun r3 => r3.elim))))) else (some mm)
theorem wX7_addTrait_L31 {E : zE} {d : Nat} (hd : 1 ≤ d) {Q : Option zV → zM → Prop} {v0 : Nat} {v2 : Int32} {n : Nat} {s : (Int32 × zM)} {o : zM ⊕ Empty} (h : zloop (fX7_addTrait_L31 v0 v2) n s = some o) (he : ∀ y : zM, o = .inl y → V E RX7 cX7_addTrait 4 none d Q 55 [none, none, none, none] [] y) : V E RX7 cX7_addTrait 4 none d Q 31 [some (zK 7 v0), none, some (zI v2), some (zI s.1)] [] s.2 := by
  induction n generalizing s with
  | zero => exact (zloop_0 h).elim
  | succ n ih =>
    obtain ⟨o1, h1, hc1, he1⟩ := zloop_s h
    have kc : ∀ s' : (Int32 × zM), o1 = .inl s' → V E RX7 cX7_addTrait 4 none d Q 31 [some (zK 7 v0), none, some (zI v2), some (zI s'.1)] [] s'.2 := fun s' e => ih (hc1 s' e)
    have ke : ∀ y : zM, o1 = .inr (.inl y) → V E RX7 cX7_addTrait 4 none d Q 55 [none, none, none, none] [] y := fun y e => he y (he1 _ e)
    clear h hc1 he1 ih
    have h := h1
    clear h1
    unfold fX7_addTrait_L31 at h
    refine V_iload_n 32 rfl 3 dX7_addTrait_31 rfl rfl ?_
    refine V_bipush 34 rfl (v := 26) dX7_addTrait_32 (by decide) ?_
    refine V_icmp_ge 37 55 rfl dX7_addTrait_34 (by decide) (fun c => ?_) (fun c => ?_)
    · have h := zpos c h
      exact V_w (zsub_n (zsub_s (zsub_n (zsub_n zsub_0)))) (ke s.2 (zinj h))
    · have h := zneg c h
      refine V_aload_n 38 rfl 0 dX7_addTrait_37 rfl rfl ?_
      refine V_getr 41 rfl 34 v0 dX7_addTrait_38 fl_X7_31 rfl rfl rfl ?_
      refine V_iload_n 42 rfl 2 dX7_addTrait_41 rfl rfl ?_
      refine V_bipush 44 rfl (v := 26) dX7_addTrait_42 (by decide) ?_
      refine V_imul 45 rfl dX7_addTrait_44 ?_
      refine V_iload_n 46 rfl 3 dX7_addTrait_45 rfl rfl ?_
      refine V_iadd 47 rfl dX7_addTrait_46 ?_
      refine V_iload_n 48 rfl 3 dX7_addTrait_47 rfl rfl ?_
      obtain ⟨hi, h⟩ := zobd h
      refine V_iast 49 rfl dX7_addTrait_48 rfl hi ?_
      refine V_iinc 52 rfl (s.1 + 1) (L' := [some (zK 7 v0), none, some (zI v2), some (zI (s.1 + 1))]) dX7_addTrait_49 rfl rfl (by decide) rfl ?_
      refine V_goto 31 dX7_addTrait_52 (by decide) ?_
      exact kc ((s.1 + 1), (wi s.2 34 v0 (zn ((((v2 * 26)) + s.1))) s.1)) (zinj h)
theorem wX7_addTrait {E : zE} {d : Nat} (hd : 1 ≤ d) {Q : Option zV → zM → Prop} {v0 : Nat} {v1 : Int32} {mm : zM} {o : zM} (h : fX7_addTrait v0 v1 mm = some o) (hQ : ∀ r, o = r → Q none r) : V E RX7 cX7_addTrait 4 none d Q 0 [some (zK 7 v0), some (zI v1), none, none] [] mm := by
  unfold fX7_addTrait at h
  refine V_aload_n 1 rfl 0 dX7_addTrait_0 rfl rfl ?_
  refine V_getr 4 rfl 5 (2 * v0 + 1) dX7_addTrait_1 fl_X7_18 rfl rfl rfl ?_
  refine V_geti 7 rfl dX7_addTrait_4 fl_X7_45 rfl ?_
  refine V_istore_n 8 rfl 2 (L' := [some (zK 7 v0), some (zI v1), some (zI (gi mm 5 (2 * v0 + 1) 1)), none]) dX7_addTrait_7 rfl (by decide) rfl ?_
  refine V_iload_n 9 rfl 2 dX7_addTrait_8 rfl rfl ?_
  refine V_iconst 10 rfl (v := 4) dX7_addTrait_9 (by decide) ?_
  refine V_icmp_lt 13 14 rfl dX7_addTrait_10 (by decide) (fun c => ?_) (fun c => ?_)
  · have h := zpos c h
    refine V_aload_n 15 rfl 0 dX7_addTrait_14 rfl rfl ?_
    refine V_getr 18 rfl 5 (2 * v0 + 1) dX7_addTrait_15 fl_X7_18 rfl rfl rfl ?_
    refine V_iload_n 19 rfl 1 dX7_addTrait_18 rfl rfl ?_
    obtain ⟨x1, h1, h⟩ := zbd h
    refine V_cV 22 rfl 0 [zI v1] [] dX7_addTrait_19 cv_X7_61 (ctX5_add (Nat.le_refl 0) h1) (Nat.le_trans (by decide) hd) rfl rfl (Nat.le_of_ble_eq_true rfl) zokn rfl ?_
    refine V_aload_n 23 rfl 0 dX7_addTrait_22 rfl rfl ?_
    refine V_getr 26 rfl 31 v0 dX7_addTrait_23 fl_X7_21 rfl rfl rfl ?_
    refine V_iload_n 27 rfl 2 dX7_addTrait_26 rfl rfl ?_
    refine V_iconst 28 rfl (v := 0) dX7_addTrait_27 (by decide) ?_
    obtain ⟨hi, h⟩ := zobd h
    refine V_iast 29 rfl dX7_addTrait_28 rfl hi ?_
    refine V_iconst 30 rfl (v := 0) dX7_addTrait_29 (by decide) ?_
    refine V_istore_n 31 rfl 3 (L' := [some (zK 7 v0), some (zI v1), some (zI (gi mm 5 (2 * v0 + 1) 1)), some (zI 0)]) dX7_addTrait_30 rfl (by decide) rfl ?_
    obtain ⟨o4, h1, h⟩ := zbd h
    refine V_w (zsub_s (zsub_n (zsub_s (zsub_s zsub_0)))) (wX7_addTrait_L31 hd h1 (fun y2 e => ?_))
    have h := zcl_ e h
    exact V_vret dX7_addTrait_55 rfl (hQ y2 (zinj h))
  · have h := zneg c h
    exact V_vret dX7_addTrait_13 rfl (hQ mm (zinj h))
theorem ctX7_addTrait {E : zE} {d : Nat} (hd : 1 ≤ d) {v0 : Nat} {v1 : Int32} {mm : zM} {o : zM} (h : fX7_addTrait v0 v1 mm = some o) : zOC E yX7_addTrait cX7_addTrait 4 none d [zK 7 v0, zI v1] mm none o :=
  zCT_of (by decide) (Nat.le_of_ble_eq_true rfl) (zk_k (zk_i zk_0)) rfl (wX7_addTrait hd h (fun r e => ⟨rfl, by rw [e]⟩))
def fX9_hasBit (v0 : Int32) (v1 : Int32) (mm : zM) : Option Int32 :=
  if (((v0 >>> (v1 &&& 31))) &&& 1) = 0 then (some 0) else (some 1)
theorem wX9_hasBit {E : zE} {d : Nat} (hd : 0 ≤ d) {Q : Option zV → zM → Prop} {v0 : Int32} {v1 : Int32} {mm : zM} {o : Int32} (h : fX9_hasBit v0 v1 mm = some o) (hQ : ∀ r, o = r → Q (some (zI r)) mm) : V E RX9 cX9_hasBit 2 (some .boolean) d Q 0 [some (zI v0), some (zI v1)] [] mm := by
  unfold fX9_hasBit at h
  refine V_iload_n 1 rfl 0 dX9_hasBit_0 rfl rfl ?_
  refine V_iload_n 2 rfl 1 dX9_hasBit_1 rfl rfl ?_
  refine V_ishr 3 rfl dX9_hasBit_2 ?_
  refine V_iconst 4 rfl (v := 1) dX9_hasBit_3 (by decide) ?_
  refine V_iand 5 rfl dX9_hasBit_4 ?_
  refine V_if_eq 8 12 rfl dX9_hasBit_5 (by decide) (fun c => ?_) (fun c => ?_)
  · have h := zpos c h
    refine V_iconst 13 rfl (v := 0) dX9_hasBit_12 (by decide) ?_
    exact V_zret dX9_hasBit_13 rfl rfl (hQ 0 (zinj h))
  · have h := zneg c h
    refine V_iconst 9 rfl (v := 1) dX9_hasBit_8 (by decide) ?_
    refine V_goto 13 dX9_hasBit_9 (by decide) ?_
    exact V_zret dX9_hasBit_13 rfl rfl (hQ 1 (zinj h))
theorem ctX9_hasBit {E : zE} {d : Nat} (hd : 0 ≤ d) {v0 : Int32} {v1 : Int32} {mm : zM} {o : Int32} (h : fX9_hasBit v0 v1 mm = some o) : zOC E yX9_hasBit cX9_hasBit 2 (some .boolean) d [zI v0, zI v1] mm (some (zI o)) mm :=
  zCT_of (by decide) (Nat.le_of_ble_eq_true rfl) (zk_i (zk_i zk_0)) rfl (wX9_hasBit hd h (fun r e => ⟨by rw [e], rfl⟩))
def fX7_setLetterThere_J44 (v0 : Nat) (v3 : Int32) (v4 : Int32) (mm : zM) : Option zM :=
  zob (zin v4 104) (some ((wi mm 34 v0 (zn v4) v3)))
def fX7_setLetterThere_J29 (v0 : Nat) (v1 : Int32) (v2 : Int32) (v3 : Int32) (v4 : Int32) (mm : zM) : Option zM :=
  if v3 = v2 then (fX7_setLetterThere_J44 v0 v3 v4 mm) else (zob (zin v1 4) (zob (zin v1 4) (fX7_setLetterThere_J44 v0 v3 v4 ((wi mm 31 v0 (zn v1) ((((gi mm 31 v0 (zn v1))) + 1)))))))
def fX7_setLetterThere (v0 : Nat) (v1 : Int32) (v2 : Int32) (v3 : Int32) (mm : zM) : Option zM :=
  zob (zin ((((v1 * 26)) + v2)) 104) (if (gi mm 34 v0 (zn ((((v1 * 26)) + v2)))) = v2 then (fX7_setLetterThere_J29 v0 v1 v2 v3 ((((v1 * 26)) + v2)) mm) else (zob (zin v1 4) (zob (zin v1 4) (fX7_setLetterThere_J29 v0 v1 v2 v3 ((((v1 * 26)) + v2)) ((wi mm 31 v0 (zn v1) ((((gi mm 31 v0 (zn v1))) - 1))))))))
theorem wX7_setLetterThere_J44 {E : zE} {d : Nat} (hd : 0 ≤ d) {Q : Option zV → zM → Prop} {v0 : Nat} {v3 : Int32} {v4 : Int32} {mm : zM} {o : zM} (h : fX7_setLetterThere_J44 v0 v3 v4 mm = some o) (hQ : ∀ r, o = r → Q none r) : V E RX7 cX7_setLetterThere 5 none d Q 44 [some (zK 7 v0), none, none, some (zI v3), some (zI v4)] [] mm := by
  unfold fX7_setLetterThere_J44 at h
  refine V_aload_n 45 rfl 0 dX7_setLetterThere_44 rfl rfl ?_
  refine V_getr 48 rfl 34 v0 dX7_setLetterThere_45 fl_X7_31 rfl rfl rfl ?_
  refine V_iload 50 rfl dX7_setLetterThere_48 rfl ?_
  refine V_iload_n 51 rfl 3 dX7_setLetterThere_50 rfl rfl ?_
  obtain ⟨hi, h⟩ := zobd h
  refine V_iast 52 rfl dX7_setLetterThere_51 rfl hi ?_
  exact V_vret dX7_setLetterThere_52 rfl (hQ ((wi mm 34 v0 (zn v4) v3)) (zinj h))
theorem wX7_setLetterThere_J29 {E : zE} {d : Nat} (hd : 0 ≤ d) {Q : Option zV → zM → Prop} {v0 : Nat} {v1 : Int32} {v2 : Int32} {v3 : Int32} {v4 : Int32} {mm : zM} {o : zM} (h : fX7_setLetterThere_J29 v0 v1 v2 v3 v4 mm = some o) (hQ : ∀ r, o = r → Q none r) : V E RX7 cX7_setLetterThere 5 none d Q 29 [some (zK 7 v0), some (zI v1), some (zI v2), some (zI v3), some (zI v4)] [] mm := by
  unfold fX7_setLetterThere_J29 at h
  refine V_iload_n 30 rfl 3 dX7_setLetterThere_29 rfl rfl ?_
  refine V_iload_n 31 rfl 2 dX7_setLetterThere_30 rfl rfl ?_
  refine V_icmp_eq 34 44 rfl dX7_setLetterThere_31 (by decide) (fun c => ?_) (fun c => ?_)
  · have h := zpos c h
    exact V_w (zsub_s (zsub_n (zsub_n (zsub_s (zsub_s zsub_0))))) (wX7_setLetterThere_J44 hd h hQ)
  · have h := zneg c h
    refine V_aload_n 35 rfl 0 dX7_setLetterThere_34 rfl rfl ?_
    refine V_getr 38 rfl 31 v0 dX7_setLetterThere_35 fl_X7_21 rfl rfl rfl ?_
    refine V_iload_n 39 rfl 1 dX7_setLetterThere_38 rfl rfl ?_
    refine V_dup2 40 rfl dX7_setLetterThere_39 rfl rfl ?_
    obtain ⟨hi, h⟩ := zobd h
    refine V_iald 41 rfl dX7_setLetterThere_40 rfl hi ?_
    refine V_iconst 42 rfl (v := 1) dX7_setLetterThere_41 (by decide) ?_
    refine V_iadd 43 rfl dX7_setLetterThere_42 ?_
    obtain ⟨hi, h⟩ := zobd h
    refine V_iast 44 rfl dX7_setLetterThere_43 rfl hi ?_
    exact V_w (zsub_s (zsub_n (zsub_n (zsub_s (zsub_s zsub_0))))) (wX7_setLetterThere_J44 hd h hQ)
theorem wX7_setLetterThere {E : zE} {d : Nat} (hd : 0 ≤ d) {Q : Option zV → zM → Prop} {v0 : Nat} {v1 : Int32} {v2 : Int32} {v3 : Int32} {mm : zM} {o : zM} (h : fX7_setLetterThere v0 v1 v2 v3 mm = some o) (hQ : ∀ r, o = r → Q none r) : V E RX7 cX7_setLetterThere 5 none d Q 0 [some (zK 7 v0), some (zI v1), some (zI v2), some (zI v3), none] [] mm := by
  unfold fX7_setLetterThere at h
  refine V_iload_n 1 rfl 1 dX7_setLetterThere_0 rfl rfl ?_
  refine V_bipush 3 rfl (v := 26) dX7_setLetterThere_1 (by decide) ?_
  refine V_imul 4 rfl dX7_setLetterThere_3 ?_
  refine V_iload_n 5 rfl 2 dX7_setLetterThere_4 rfl rfl ?_
  refine V_iadd 6 rfl dX7_setLetterThere_5 ?_
  refine V_istore 8 rfl (L' := [some (zK 7 v0), some (zI v1), some (zI v2), some (zI v3), some (zI (((v1 * 26)) + v2))]) dX7_setLetterThere_6 (by decide) rfl ?_
  refine V_aload_n 9 rfl 0 dX7_setLetterThere_8 rfl rfl ?_
  refine V_getr 12 rfl 34 v0 dX7_setLetterThere_9 fl_X7_31 rfl rfl rfl ?_
  refine V_iload 14 rfl dX7_setLetterThere_12 rfl ?_
  obtain ⟨hi, h⟩ := zobd h
  refine V_iald 15 rfl dX7_setLetterThere_14 rfl hi ?_
  refine V_iload_n 16 rfl 2 dX7_setLetterThere_15 rfl rfl ?_
  refine V_icmp_eq 19 29 rfl dX7_setLetterThere_16 (by decide) (fun c => ?_) (fun c => ?_)
  · have h := zpos c h
    exact wX7_setLetterThere_J29 hd h hQ
  · have h := zneg c h
    refine V_aload_n 20 rfl 0 dX7_setLetterThere_19 rfl rfl ?_
    refine V_getr 23 rfl 31 v0 dX7_setLetterThere_20 fl_X7_21 rfl rfl rfl ?_
    refine V_iload_n 24 rfl 1 dX7_setLetterThere_23 rfl rfl ?_
    refine V_dup2 25 rfl dX7_setLetterThere_24 rfl rfl ?_
    obtain ⟨hi, h⟩ := zobd h
    refine V_iald 26 rfl dX7_setLetterThere_25 rfl hi ?_
    refine V_iconst 27 rfl (v := 1) dX7_setLetterThere_26 (by decide) ?_
    refine V_isub 28 rfl dX7_setLetterThere_27 ?_
    obtain ⟨hi, h⟩ := zobd h
    refine V_iast 29 rfl dX7_setLetterThere_28 rfl hi ?_
    exact wX7_setLetterThere_J29 hd h hQ
theorem ctX7_setLetterThere {E : zE} {d : Nat} (hd : 0 ≤ d) {v0 : Nat} {v1 : Int32} {v2 : Int32} {v3 : Int32} {mm : zM} {o : zM} (h : fX7_setLetterThere v0 v1 v2 v3 mm = some o) : zOC E yX7_setLetterThere cX7_setLetterThere 5 none d [zK 7 v0, zI v1, zI v2, zI v3] mm none o :=
  zCT_of (by decide) (Nat.le_of_ble_eq_true rfl) (zk_k (zk_i (zk_i (zk_i zk_0)))) rfl (wX7_setLetterThere hd h (fun r e => ⟨rfl, by rw [e]⟩))
def fX4_readChange_J151 (v1 : Nat) (v2 : Int32) (v5 : Int32) (v6 : Int32) (mm : zM) : Option (Int32 × zM) :=
  (fX7_setLetterThere v1 v2 v5 v6 mm).bind (fun x4 => some ((1, x4)))
def fX4_readChange_J37 (v1 : Nat) (v2 : Int32) (v3 : Int32) (v4 : Int32) (mm : zM) : Option (Int32 × zM) :=
  (fX4_memberHere mm).bind (fun x1 => if x1 = (-1) then ((fX4_refuse 1 mm).bind (fun x12 => zob (zbo x12.1) (some ((x12.1, x12.2))))) else ((fX9_hasBit ((gi mm 4 0 6)) x1 mm).bind (fun x2 => if x2 = 0 then (if v3 < 6 then ((fX4_pass ((wi mm 4 0 6 ((((gi mm 4 0 6)) ||| ((1 <<< (x1 &&& 31)))))))).bind (fun x3 => if v4 = 0 then (if (gi x3 4 0 4) = 62 then ((fX4_pass x3).bind (fun x5 => (fX4_memberHere x5).bind (fun x6 => if x6 = (-1) then ((fX4_refuse 1 x5).bind (fun x8 => zob (zbo x8.1) (some ((x8.1, x8.2))))) else ((fX4_pass x5).bind (fun x7 => fX4_readChange_J151 v1 v2 x1 x6 x7))))) else ((fX4_refuse 1 x3).bind (fun x9 => zob (zbo x9.1) (some ((x9.1, x9.2)))))) else (fX4_readChange_J151 v1 v2 x1 ((-1)) x3))) else ((fX4_refuse 3 mm).bind (fun x10 => zob (zbo x10.1) (some ((x10.1, x10.2)))))) else ((fX4_refuse 2 mm).bind (fun x11 => zob (zbo x11.1) (some ((x11.1, x11.2))))))))
def fX4_readChange_J14 (v1 : Nat) (v2 : Int32) (v3 : Int32) (s0 : Int32) (mm : zM) : Option (Int32 × zM) :=
  if s0 = 0 then (fX4_readChange_J37 v1 v2 v3 s0 mm) else (if v3 < 6 then ((fX4_pass mm).bind (fun x13 => fX4_readChange_J37 v1 v2 v3 s0 x13)) else ((fX4_refuse 3 mm).bind (fun x14 => zob (zbo x14.1) (some ((x14.1, x14.2))))))
def fX4_readChange (v1 : Nat) (v2 : Int32) (v3 : Int32) (mm : zM) : Option (Int32 × zM) :=
  if (gi mm 4 0 4) = 45 then (fX4_readChange_J14 v1 v2 v3 1 mm) else (fX4_readChange_J14 v1 v2 v3 0 mm)
theorem wX4_readChange_J151 {E : zE} {d : Nat} (hd : 1 ≤ d) {Q : Option zV → zM → Prop} {v1 : Nat} {v2 : Int32} {v5 : Int32} {v6 : Int32} {mm : zM} {o : (Int32 × zM)} (h : fX4_readChange_J151 v1 v2 v5 v6 mm = some o) (hQ : ∀ r, o = r → Q (some (zI r.1)) r.2) : V E RX4 cX4_readChange 7 (some .boolean) d Q 151 [none, some (zK 7 v1), some (zI v2), none, none, some (zI v5), some (zI v6)] [] mm := by
  unfold fX4_readChange_J151 at h
  refine V_aload_n 152 rfl 1 dX4_readChange_151 rfl rfl ?_
  refine V_iload_n 153 rfl 2 dX4_readChange_152 rfl rfl ?_
  refine V_iload 155 rfl dX4_readChange_153 rfl ?_
  refine V_iload 157 rfl dX4_readChange_155 rfl ?_
  obtain ⟨x4, h1, h⟩ := zbd h
  refine V_cV 160 rfl 0 [zI v2, zI v5, zI v6] [] dX4_readChange_157 cv_X4_148 (ctX7_setLetterThere (Nat.le_refl 0) h1) (Nat.le_trans (by decide) hd) rfl rfl (Nat.le_of_ble_eq_true rfl) zokn rfl ?_
  refine V_iconst 161 rfl (v := 1) dX4_readChange_160 (by decide) ?_
  exact V_zret dX4_readChange_161 rfl rfl (hQ ((1, x4)) (zinj h))
theorem wX4_readChange_J37 {E : zE} {d : Nat} (hd : 1 ≤ d) {Q : Option zV → zM → Prop} {v1 : Nat} {v2 : Int32} {v3 : Int32} {v4 : Int32} {mm : zM} {o : (Int32 × zM)} (h : fX4_readChange_J37 v1 v2 v3 v4 mm = some o) (hQ : ∀ r, o = r → Q (some (zI r.1)) r.2) : V E RX4 cX4_readChange 7 (some .boolean) d Q 37 [some (zK 4 0), some (zK 7 v1), some (zI v2), some (zI v3), some (zI v4), none, none] [] mm := by
  unfold fX4_readChange_J37 at h
  refine V_aload_n 38 rfl 0 dX4_readChange_37 rfl rfl ?_
  obtain ⟨x1, h1, h⟩ := zbd h
  refine V_cV 41 rfl 0 [] [] dX4_readChange_38 cv_X4_141 (ctX4_memberHere (Nat.le_refl 0) h1) (Nat.le_trans (by decide) hd) rfl rfl (Nat.le_of_ble_eq_true rfl) zoki rfl ?_
  refine V_istore 43 rfl (L' := [some (zK 4 0), some (zK 7 v1), some (zI v2), some (zI v3), some (zI v4), some (zI x1), none]) dX4_readChange_41 (by decide) rfl ?_
  refine V_iload 45 rfl dX4_readChange_43 rfl ?_
  refine V_iconst 46 rfl (v := (-1)) dX4_readChange_45 (by decide) ?_
  refine V_icmp_ne 49 55 rfl dX4_readChange_46 (by decide) (fun c => ?_) (fun c => ?_)
  · have h := zneg c h
    refine V_aload_n 56 rfl 0 dX4_readChange_55 rfl rfl ?_
    refine V_geti 59 rfl dX4_readChange_56 fl_X4_134 rfl ?_
    refine V_iload 61 rfl dX4_readChange_59 rfl ?_
    obtain ⟨x2, h1, h⟩ := zbd h
    refine V_cN 64 rfl 0 [zI (gi mm 4 0 6), zI x1] [] dX4_readChange_61 cn_X4_144 (ctX9_hasBit (Nat.le_refl 0) h1) (Nat.le_trans (by decide) hd) rfl rfl (Nat.le_of_ble_eq_true rfl) zoki rfl ?_
    refine V_if_eq 67 73 rfl dX4_readChange_64 (by decide) (fun c => ?_) (fun c => ?_)
    · have h := zpos c h
      refine V_iload_n 74 rfl 3 dX4_readChange_73 rfl rfl ?_
      refine V_bipush 76 rfl (v := 6) dX4_readChange_74 (by decide) ?_
      refine V_icmp_lt 79 85 rfl dX4_readChange_76 (by decide) (fun c => ?_) (fun c => ?_)
      · have h := zpos c h
        refine V_aload_n 86 rfl 0 dX4_readChange_85 rfl rfl ?_
        refine V_dup 87 rfl dX4_readChange_86 rfl ?_
        refine V_geti 90 rfl dX4_readChange_87 fl_X4_134 rfl ?_
        refine V_iconst 91 rfl (v := 1) dX4_readChange_90 (by decide) ?_
        refine V_iload 93 rfl dX4_readChange_91 rfl ?_
        refine V_ishl 94 rfl dX4_readChange_93 ?_
        refine V_ior 95 rfl dX4_readChange_94 ?_
        refine V_puti 98 rfl dX4_readChange_95 fw_X4_134 rfl rfl rfl ?_
        refine V_aload_n 99 rfl 0 dX4_readChange_98 rfl rfl ?_
        obtain ⟨x3, h1, h⟩ := zbd h
        refine V_cV 102 rfl 0 [] [] dX4_readChange_99 cv_X4_40 (ctX4_pass (Nat.le_refl 0) h1) (Nat.le_trans (by decide) hd) rfl rfl (Nat.le_of_ble_eq_true rfl) zokn rfl ?_
        refine V_iconst 103 rfl (v := (-1)) dX4_readChange_102 (by decide) ?_
        refine V_istore 105 rfl (L' := [some (zK 4 0), some (zK 7 v1), some (zI v2), some (zI v3), some (zI v4), some (zI x1), some (zI (-1))]) dX4_readChange_103 (by decide) rfl ?_
        refine V_iload 107 rfl dX4_readChange_105 rfl ?_
        refine V_if_ne 110 151 rfl dX4_readChange_107 (by decide) (fun c => ?_) (fun c => ?_)
        · have h := zneg c h
          exact V_w (zsub_n (zsub_s (zsub_s (zsub_n (zsub_n (zsub_s (zsub_s zsub_0))))))) (wX4_readChange_J151 hd h hQ)
        · have h := zpos c h
          refine V_aload_n 111 rfl 0 dX4_readChange_110 rfl rfl ?_
          refine V_geti 114 rfl dX4_readChange_111 fl_X4_53 rfl ?_
          refine V_bipush 116 rfl (v := 62) dX4_readChange_114 (by decide) ?_
          refine V_icmp_eq 119 125 rfl dX4_readChange_116 (by decide) (fun c => ?_) (fun c => ?_)
          · have h := zpos c h
            refine V_aload_n 126 rfl 0 dX4_readChange_125 rfl rfl ?_
            obtain ⟨x5, h1, h⟩ := zbd h
            refine V_cV 129 rfl 0 [] [] dX4_readChange_126 cv_X4_40 (ctX4_pass (Nat.le_refl 0) h1) (Nat.le_trans (by decide) hd) rfl rfl (Nat.le_of_ble_eq_true rfl) zokn rfl ?_
            refine V_aload_n 130 rfl 0 dX4_readChange_129 rfl rfl ?_
            obtain ⟨x6, h1, h⟩ := zbd h
            refine V_cV 133 rfl 0 [] [] dX4_readChange_130 cv_X4_141 (ctX4_memberHere (Nat.le_refl 0) h1) (Nat.le_trans (by decide) hd) rfl rfl (Nat.le_of_ble_eq_true rfl) zoki rfl ?_
            refine V_istore 135 rfl (L' := [some (zK 4 0), some (zK 7 v1), some (zI v2), some (zI v3), some (zI v4), some (zI x1), some (zI x6)]) dX4_readChange_133 (by decide) rfl ?_
            refine V_iload 137 rfl dX4_readChange_135 rfl ?_
            refine V_iconst 138 rfl (v := (-1)) dX4_readChange_137 (by decide) ?_
            refine V_icmp_ne 141 147 rfl dX4_readChange_138 (by decide) (fun c => ?_) (fun c => ?_)
            · have h := zneg c h
              refine V_aload_n 148 rfl 0 dX4_readChange_147 rfl rfl ?_
              obtain ⟨x7, h1, h⟩ := zbd h
              refine V_cV 151 rfl 0 [] [] dX4_readChange_148 cv_X4_40 (ctX4_pass (Nat.le_refl 0) h1) (Nat.le_trans (by decide) hd) rfl rfl (Nat.le_of_ble_eq_true rfl) zokn rfl ?_
              exact V_w (zsub_n (zsub_s (zsub_s (zsub_n (zsub_n (zsub_s (zsub_s zsub_0))))))) (wX4_readChange_J151 hd h hQ)
            · have h := zpos c h
              refine V_aload_n 142 rfl 0 dX4_readChange_141 rfl rfl ?_
              refine V_iconst 143 rfl (v := 1) dX4_readChange_142 (by decide) ?_
              obtain ⟨x8, h1, h⟩ := zbd h
              refine V_cV 146 rfl 0 [zI 1] [] dX4_readChange_143 cv_X4_56 (ctX4_refuse (Nat.le_refl 0) h1) (Nat.le_trans (by decide) hd) rfl rfl (Nat.le_of_ble_eq_true rfl) zoki rfl ?_
              obtain ⟨hi, h⟩ := zobd h
              exact V_zret dX4_readChange_146 rfl (zbo_n hi) (hQ ((x8.1, x8.2)) (zinj h))
          · have h := zneg c h
            refine V_aload_n 120 rfl 0 dX4_readChange_119 rfl rfl ?_
            refine V_iconst 121 rfl (v := 1) dX4_readChange_120 (by decide) ?_
            obtain ⟨x9, h1, h⟩ := zbd h
            refine V_cV 124 rfl 0 [zI 1] [] dX4_readChange_121 cv_X4_56 (ctX4_refuse (Nat.le_refl 0) h1) (Nat.le_trans (by decide) hd) rfl rfl (Nat.le_of_ble_eq_true rfl) zoki rfl ?_
            obtain ⟨hi, h⟩ := zobd h
            exact V_zret dX4_readChange_124 rfl (zbo_n hi) (hQ ((x9.1, x9.2)) (zinj h))
      · have h := zneg c h
        refine V_aload_n 80 rfl 0 dX4_readChange_79 rfl rfl ?_
        refine V_iconst 81 rfl (v := 3) dX4_readChange_80 (by decide) ?_
        obtain ⟨x10, h1, h⟩ := zbd h
        refine V_cV 84 rfl 0 [zI 3] [] dX4_readChange_81 cv_X4_56 (ctX4_refuse (Nat.le_refl 0) h1) (Nat.le_trans (by decide) hd) rfl rfl (Nat.le_of_ble_eq_true rfl) zoki rfl ?_
        obtain ⟨hi, h⟩ := zobd h
        exact V_zret dX4_readChange_84 rfl (zbo_n hi) (hQ ((x10.1, x10.2)) (zinj h))
    · have h := zneg c h
      refine V_aload_n 68 rfl 0 dX4_readChange_67 rfl rfl ?_
      refine V_iconst 69 rfl (v := 2) dX4_readChange_68 (by decide) ?_
      obtain ⟨x11, h1, h⟩ := zbd h
      refine V_cV 72 rfl 0 [zI 2] [] dX4_readChange_69 cv_X4_56 (ctX4_refuse (Nat.le_refl 0) h1) (Nat.le_trans (by decide) hd) rfl rfl (Nat.le_of_ble_eq_true rfl) zoki rfl ?_
      obtain ⟨hi, h⟩ := zobd h
      exact V_zret dX4_readChange_72 rfl (zbo_n hi) (hQ ((x11.1, x11.2)) (zinj h))
  · have h := zpos c h
    refine V_aload_n 50 rfl 0 dX4_readChange_49 rfl rfl ?_
    refine V_iconst 51 rfl (v := 1) dX4_readChange_50 (by decide) ?_
    obtain ⟨x12, h1, h⟩ := zbd h
    refine V_cV 54 rfl 0 [zI 1] [] dX4_readChange_51 cv_X4_56 (ctX4_refuse (Nat.le_refl 0) h1) (Nat.le_trans (by decide) hd) rfl rfl (Nat.le_of_ble_eq_true rfl) zoki rfl ?_
    obtain ⟨hi, h⟩ := zobd h
    exact V_zret dX4_readChange_54 rfl (zbo_n hi) (hQ ((x12.1, x12.2)) (zinj h))
theorem wX4_readChange_J14 {E : zE} {d : Nat} (hd : 1 ≤ d) {Q : Option zV → zM → Prop} {v1 : Nat} {v2 : Int32} {v3 : Int32} {s0 : Int32} {mm : zM} {o : (Int32 × zM)} (h : fX4_readChange_J14 v1 v2 v3 s0 mm = some o) (hQ : ∀ r, o = r → Q (some (zI r.1)) r.2) : V E RX4 cX4_readChange 7 (some .boolean) d Q 14 [some (zK 4 0), some (zK 7 v1), some (zI v2), some (zI v3), none, none, none] [zI s0] mm := by
  unfold fX4_readChange_J14 at h
  refine V_istore 16 rfl (L' := [some (zK 4 0), some (zK 7 v1), some (zI v2), some (zI v3), some (zI s0), none, none]) dX4_readChange_14 (by decide) rfl ?_
  refine V_iload 18 rfl dX4_readChange_16 rfl ?_
  refine V_if_eq 21 37 rfl dX4_readChange_18 (by decide) (fun c => ?_) (fun c => ?_)
  · have h := zpos c h
    exact wX4_readChange_J37 hd h hQ
  · have h := zneg c h
    refine V_iload_n 22 rfl 3 dX4_readChange_21 rfl rfl ?_
    refine V_bipush 24 rfl (v := 6) dX4_readChange_22 (by decide) ?_
    refine V_icmp_lt 27 33 rfl dX4_readChange_24 (by decide) (fun c => ?_) (fun c => ?_)
    · have h := zpos c h
      refine V_aload_n 34 rfl 0 dX4_readChange_33 rfl rfl ?_
      obtain ⟨x13, h1, h⟩ := zbd h
      refine V_cV 37 rfl 0 [] [] dX4_readChange_34 cv_X4_40 (ctX4_pass (Nat.le_refl 0) h1) (Nat.le_trans (by decide) hd) rfl rfl (Nat.le_of_ble_eq_true rfl) zokn rfl ?_
      exact wX4_readChange_J37 hd h hQ
    · have h := zneg c h
      refine V_aload_n 28 rfl 0 dX4_readChange_27 rfl rfl ?_
      refine V_iconst 29 rfl (v := 3) dX4_readChange_28 (by decide) ?_
      obtain ⟨x14, h1, h⟩ := zbd h
      refine V_cV 32 rfl 0 [zI 3] [] dX4_readChange_29 cv_X4_56 (ctX4_refuse (Nat.le_refl 0) h1) (Nat.le_trans (by decide) hd) rfl rfl (Nat.le_of_ble_eq_true rfl) zoki rfl ?_
      obtain ⟨hi, h⟩ := zobd h
      exact V_zret dX4_readChange_32 rfl (zbo_n hi) (hQ ((x14.1, x14.2)) (zinj h))
theorem wX4_readChange {E : zE} {d : Nat} (hd : 1 ≤ d) {Q : Option zV → zM → Prop} {v1 : Nat} {v2 : Int32} {v3 : Int32} {mm : zM} {o : (Int32 × zM)} (h : fX4_readChange v1 v2 v3 mm = some o) (hQ : ∀ r, o = r → Q (some (zI r.1)) r.2) : V E RX4 cX4_readChange 7 (some .boolean) d Q 0 [some (zK 4 0), some (zK 7 v1), some (zI v2), some (zI v3), none, none, none] [] mm := by
  unfold fX4_readChange at h
  refine V_aload_n 1 rfl 0 dX4_readChange_0 rfl rfl ?_
  refine V_geti 4 rfl dX4_readChange_1 fl_X4_53 rfl ?_
  refine V_bipush 6 rfl (v := 45) dX4_readChange_4 (by decide) ?_
  refine V_icmp_ne 9 13 rfl dX4_readChange_6 (by decide) (fun c => ?_) (fun c => ?_)
  · have h := zneg c h
    refine V_iconst 14 rfl (v := 0) dX4_readChange_13 (by decide) ?_
    exact wX4_readChange_J14 hd h hQ
  · have h := zpos c h
    refine V_iconst 10 rfl (v := 1) dX4_readChange_9 (by decide) ?_
    refine V_goto 14 dX4_readChange_10 (by decide) ?_
    exact wX4_readChange_J14 hd h hQ
theorem ctX4_readChange {E : zE} {d : Nat} (hd : 1 ≤ d) {v1 : Nat} {v2 : Int32} {v3 : Int32} {mm : zM} {o : (Int32 × zM)} (h : fX4_readChange v1 v2 v3 mm = some o) : zOC E yX4_readChange cX4_readChange 7 (some .boolean) d [zK 4 0, zK 7 v1, zI v2, zI v3] mm (some (zI o.1)) o.2 :=
  zCT_of (by decide) (Nat.le_of_ble_eq_true rfl) (zk_k (zk_k (zk_i (zk_i zk_0)))) rfl (wX4_readChange hd h (fun r e => ⟨by rw [e], by rw [e]⟩))
def fX4_readChanges_J36 (v1 : Nat) (v2 : Int32) (v3 : Int32) (mm : zM) : Option ((Int32 × zM) ⊕ (zM ⊕ (Int32 × zM))) :=
  (fX4_readChange v1 v2 v3 mm).bind (fun x2 => if x2.1 = 0 then (some (.inr (.inr ((0, x2.2))))) else (some (.inl ((v3 + 1), x2.2))))
def fX4_readChanges_L11 (v1 : Nat) (v2 : Int32) (s : (Int32 × zM)) : Option ((Int32 × zM) ⊕ (zM ⊕ (Int32 × zM))) :=
  if 6 < s.1 then (some (.inr (.inl s.2))) else (if s.1 ≤ 0 then (fX4_readChanges_J36 v1 v2 s.1 s.2) else (if (gi s.2 4 0 4) = 41 then ((fX4_pass s.2).bind (fun x3 => some (.inr (.inr ((1, x3)))))) else (fX4_readChanges_J36 v1 v2 s.1 s.2)))
def fX4_readChanges (v1 : Nat) (v2 : Int32) (mm : zM) : Option (Int32 × zM) :=
  (fX4_pass mm).bind (fun x1 => (zloop (fX4_readChanges_L11 v1 v2) zF (0, (wi x1 4 0 6 0))).bind (fun o6 => zcase o6 (fun y4 => some ((1, y4))) (fun r5 => some r5)))
theorem wX4_readChanges_J36 {E : zE} {d : Nat} (hd : 2 ≤ d) {Q : Option zV → zM → Prop} {v1 : Nat} {v2 : Int32} {v3 : Int32} {mm : zM} {o : ((Int32 × zM) ⊕ (zM ⊕ (Int32 × zM)))} (h : fX4_readChanges_J36 v1 v2 v3 mm = some o) (kc : ∀ s' : (Int32 × zM), o = .inl s' → V E RX4 cX4_readChanges 4 (some .boolean) d Q 11 [some (zK 4 0), some (zK 7 v1), some (zI v2), some (zI s'.1)] [] s'.2) (ke : ∀ y : zM, o = .inr (.inl y) → V E RX4 cX4_readChanges 4 (some .boolean) d Q 54 [none, none, none, none] [] y) (kr : ∀ r : (Int32 × zM), o = .inr (.inr r) → Q (some (zI r.1)) r.2) : V E RX4 cX4_readChanges 4 (some .boolean) d Q 36 [some (zK 4 0), some (zK 7 v1), some (zI v2), some (zI v3)] [] mm := by
  unfold fX4_readChanges_J36 at h
  refine V_aload_n 37 rfl 0 dX4_readChanges_36 rfl rfl ?_
  refine V_aload_n 38 rfl 1 dX4_readChanges_37 rfl rfl ?_
  refine V_iload_n 39 rfl 2 dX4_readChanges_38 rfl rfl ?_
  refine V_iload_n 40 rfl 3 dX4_readChanges_39 rfl rfl ?_
  obtain ⟨x2, h1, h⟩ := zbd h
  refine V_cV 43 rfl 1 [zK 7 v1, zI v2, zI v3] [] dX4_readChanges_40 cv_X4_137 (ctX4_readChange (Nat.le_refl 1) h1) (Nat.le_trans (by decide) hd) rfl rfl (Nat.le_of_ble_eq_true rfl) zoki rfl ?_
  refine V_if_ne 46 48 rfl dX4_readChanges_43 (by decide) (fun c => ?_) (fun c => ?_)
  · have h := zneg c h
    refine V_iinc 51 rfl (v3 + 1) (L' := [some (zK 4 0), some (zK 7 v1), some (zI v2), some (zI (v3 + 1))]) dX4_readChanges_48 rfl rfl (by decide) rfl ?_
    refine V_goto 11 dX4_readChanges_51 (by decide) ?_
    exact kc ((v3 + 1), x2.2) (zinj h)
  · have h := zpos c h
    refine V_iconst 47 rfl (v := 0) dX4_readChanges_46 (by decide) ?_
    exact V_zret dX4_readChanges_47 rfl rfl (kr ((0, x2.2)) (zinj h))
theorem wX4_readChanges_L11 {E : zE} {d : Nat} (hd : 2 ≤ d) {Q : Option zV → zM → Prop} {v1 : Nat} {v2 : Int32} {n : Nat} {s : (Int32 × zM)} {o : zM ⊕ (Int32 × zM)} (h : zloop (fX4_readChanges_L11 v1 v2) n s = some o) (he : ∀ y : zM, o = .inl y → V E RX4 cX4_readChanges 4 (some .boolean) d Q 54 [none, none, none, none] [] y) (hr : ∀ r : (Int32 × zM), o = .inr r → Q (some (zI r.1)) r.2) : V E RX4 cX4_readChanges 4 (some .boolean) d Q 11 [some (zK 4 0), some (zK 7 v1), some (zI v2), some (zI s.1)] [] s.2 := by
  induction n generalizing s with
  | zero => exact (zloop_0 h).elim
  | succ n ih =>
    obtain ⟨o1, h1, hc1, he1⟩ := zloop_s h
    have kc : ∀ s' : (Int32 × zM), o1 = .inl s' → V E RX4 cX4_readChanges 4 (some .boolean) d Q 11 [some (zK 4 0), some (zK 7 v1), some (zI v2), some (zI s'.1)] [] s'.2 := fun s' e => ih (hc1 s' e)
    have ke : ∀ y : zM, o1 = .inr (.inl y) → V E RX4 cX4_readChanges 4 (some .boolean) d Q 54 [none, none, none, none] [] y := fun y e => he y (he1 _ e)
    have kr : ∀ r : (Int32 × zM), o1 = .inr (.inr r) → Q (some (zI r.1)) r.2 := fun r e => hr r (he1 _ e)
    clear h hc1 he1 ih
    have h := h1
    clear h1
    unfold fX4_readChanges_L11 at h
    refine V_iload_n 12 rfl 3 dX4_readChanges_11 rfl rfl ?_
    refine V_bipush 14 rfl (v := 6) dX4_readChanges_12 (by decide) ?_
    refine V_icmp_gt 17 54 rfl dX4_readChanges_14 (by decide) (fun c => ?_) (fun c => ?_)
    · have h := zpos c h
      exact V_w (zsub_n (zsub_n (zsub_n (zsub_n zsub_0)))) (ke s.2 (zinj h))
    · have h := zneg c h
      refine V_iload_n 18 rfl 3 dX4_readChanges_17 rfl rfl ?_
      refine V_if_le 21 36 rfl dX4_readChanges_18 (by decide) (fun c => ?_) (fun c => ?_)
      · have h := zpos c h
        exact wX4_readChanges_J36 hd h kc ke kr
      · have h := zneg c h
        refine V_aload_n 22 rfl 0 dX4_readChanges_21 rfl rfl ?_
        refine V_geti 25 rfl dX4_readChanges_22 fl_X4_53 rfl ?_
        refine V_bipush 27 rfl (v := 41) dX4_readChanges_25 (by decide) ?_
        refine V_icmp_ne 30 36 rfl dX4_readChanges_27 (by decide) (fun c => ?_) (fun c => ?_)
        · have h := zneg c h
          exact wX4_readChanges_J36 hd h kc ke kr
        · have h := zpos c h
          refine V_aload_n 31 rfl 0 dX4_readChanges_30 rfl rfl ?_
          obtain ⟨x3, h1, h⟩ := zbd h
          refine V_cV 34 rfl 0 [] [] dX4_readChanges_31 cv_X4_40 (ctX4_pass (Nat.le_refl 0) h1) (Nat.le_trans (by decide) hd) rfl rfl (Nat.le_of_ble_eq_true rfl) zokn rfl ?_
          refine V_iconst 35 rfl (v := 1) dX4_readChanges_34 (by decide) ?_
          exact V_zret dX4_readChanges_35 rfl rfl (kr ((1, x3)) (zinj h))
theorem wX4_readChanges {E : zE} {d : Nat} (hd : 2 ≤ d) {Q : Option zV → zM → Prop} {v1 : Nat} {v2 : Int32} {mm : zM} {o : (Int32 × zM)} (h : fX4_readChanges v1 v2 mm = some o) (hQ : ∀ r, o = r → Q (some (zI r.1)) r.2) : V E RX4 cX4_readChanges 4 (some .boolean) d Q 0 [some (zK 4 0), some (zK 7 v1), some (zI v2), none] [] mm := by
  unfold fX4_readChanges at h
  refine V_aload_n 1 rfl 0 dX4_readChanges_0 rfl rfl ?_
  obtain ⟨x1, h1, h⟩ := zbd h
  refine V_cV 4 rfl 0 [] [] dX4_readChanges_1 cv_X4_40 (ctX4_pass (Nat.le_refl 0) h1) (Nat.le_trans (by decide) hd) rfl rfl (Nat.le_of_ble_eq_true rfl) zokn rfl ?_
  refine V_aload_n 5 rfl 0 dX4_readChanges_4 rfl rfl ?_
  refine V_iconst 6 rfl (v := 0) dX4_readChanges_5 (by decide) ?_
  refine V_puti 9 rfl dX4_readChanges_6 fw_X4_134 rfl rfl rfl ?_
  refine V_iconst 10 rfl (v := 0) dX4_readChanges_9 (by decide) ?_
  refine V_istore_n 11 rfl 3 (L' := [some (zK 4 0), some (zK 7 v1), some (zI v2), some (zI 0)]) dX4_readChanges_10 rfl (by decide) rfl ?_
  obtain ⟨o6, h1, h⟩ := zbd h
  refine wX4_readChanges_L11 hd h1 (fun y4 e => ?_) (fun r e => by have h := zcr_ e h; exact hQ r (zinj h))
  have h := zcl_ e h
  refine V_iconst 55 rfl (v := 1) dX4_readChanges_54 (by decide) ?_
  exact V_zret dX4_readChanges_55 rfl rfl (hQ ((1, y4)) (zinj h))
theorem ctX4_readChanges {E : zE} {d : Nat} (hd : 2 ≤ d) {v1 : Nat} {v2 : Int32} {mm : zM} {o : (Int32 × zM)} (h : fX4_readChanges v1 v2 mm = some o) : zOC E yX4_readChanges cX4_readChanges 4 (some .boolean) d [zK 4 0, zK 7 v1, zI v2] mm (some (zI o.1)) o.2 :=
  zCT_of (by decide) (Nat.le_of_ble_eq_true rfl) (zk_k (zk_k (zk_i zk_0))) rfl (wX4_readChanges hd h (fun r e => ⟨by rw [e], by rw [e]⟩))
def fX4_readTraits_L6 (v1 : Nat) (s : (Int32 × zM)) : Option ((Int32 × zM) ⊕ (zM ⊕ (Int32 × zM))) :=
  if 4 < s.1 then (some (.inr (.inl s.2))) else ((fX4_nameHere s.2).bind (fun x2 => if x2 = (-1) then (if 0 < s.1 then (some (.inr (.inr ((1, s.2))))) else ((fX4_refuse 1 s.2).bind (fun x6 => if x6.1 = 0 then (some (.inr (.inr ((0, x6.2))))) else (some (.inr (.inr ((1, x6.2)))))))) else ((fX4_readOfRow ((2 * v1 + 1)) 1 s.2).bind (fun x3 => if x3.1 = (-1) then (some (.inr (.inr ((0, x3.2))))) else ((fX7_addTrait v1 x3.1 x3.2).bind (fun x4 => if (gi x4 4 0 4) = 40 then ((fX4_readChanges v1 s.1 x4).bind (fun x5 => if x5.1 = 0 then (some (.inr (.inr ((0, x5.2))))) else (some (.inl ((s.1 + 1), x5.2))))) else (some (.inl ((s.1 + 1), x4)))))))))
def fX4_readTraits (v1 : Nat) (mm : zM) : Option (Int32 × zM) :=
  (fX4_pass mm).bind (fun x1 => (zloop (fX4_readTraits_L6 v1) zF (0, x1)).bind (fun o9 => zcase o9 (fun y7 => some ((1, y7))) (fun r8 => some r8)))
theorem wX4_readTraits_L6 {E : zE} {d : Nat} (hd : 3 ≤ d) {Q : Option zV → zM → Prop} {v1 : Nat} {n : Nat} {s : (Int32 × zM)} {o : zM ⊕ (Int32 × zM)} (h : zloop (fX4_readTraits_L6 v1) n s = some o) (he : ∀ y : zM, o = .inl y → V E RX4 cX4_readTraits 4 (some .boolean) d Q 85 [none, none, none, none] [] y) (hr : ∀ r : (Int32 × zM), o = .inr r → Q (some (zI r.1)) r.2) : V E RX4 cX4_readTraits 4 (some .boolean) d Q 6 [some (zK 4 0), some (zK 7 v1), some (zI s.1), none] [] s.2 := by
  induction n generalizing s with
  | zero => exact (zloop_0 h).elim
  | succ n ih =>
    obtain ⟨o1, h1, hc1, he1⟩ := zloop_s h
    have kc : ∀ s' : (Int32 × zM), o1 = .inl s' → V E RX4 cX4_readTraits 4 (some .boolean) d Q 6 [some (zK 4 0), some (zK 7 v1), some (zI s'.1), none] [] s'.2 := fun s' e => ih (hc1 s' e)
    have ke : ∀ y : zM, o1 = .inr (.inl y) → V E RX4 cX4_readTraits 4 (some .boolean) d Q 85 [none, none, none, none] [] y := fun y e => he y (he1 _ e)
    have kr : ∀ r : (Int32 × zM), o1 = .inr (.inr r) → Q (some (zI r.1)) r.2 := fun r e => hr r (he1 _ e)
    clear h hc1 he1 ih
    have h := h1
    clear h1
    unfold fX4_readTraits_L6 at h
    refine V_iload_n 7 rfl 2 dX4_readTraits_6 rfl rfl ?_
    refine V_iconst 8 rfl (v := 4) dX4_readTraits_7 (by decide) ?_
    refine V_icmp_gt 11 85 rfl dX4_readTraits_8 (by decide) (fun c => ?_) (fun c => ?_)
    · have h := zpos c h
      exact V_w (zsub_n (zsub_n (zsub_n (zsub_s zsub_0)))) (ke s.2 (zinj h))
    · have h := zneg c h
      refine V_aload_n 12 rfl 0 dX4_readTraits_11 rfl rfl ?_
      obtain ⟨x2, h1, h⟩ := zbd h
      refine V_cV 15 rfl 0 [] [] dX4_readTraits_12 cv_X4_68 (ctX4_nameHere (Nat.le_refl 0) h1) (Nat.le_trans (by decide) hd) rfl rfl (Nat.le_of_ble_eq_true rfl) zoki rfl ?_
      refine V_iconst 16 rfl (v := (-1)) dX4_readTraits_15 (by decide) ?_
      refine V_icmp_ne 19 37 rfl dX4_readTraits_16 (by decide) (fun c => ?_) (fun c => ?_)
      · have h := zneg c h
        refine V_aload_n 38 rfl 0 dX4_readTraits_37 rfl rfl ?_
        refine V_aload_n 39 rfl 1 dX4_readTraits_38 rfl rfl ?_
        refine V_getr 42 rfl 5 (2 * v1 + 1) dX4_readTraits_39 fl_X4_114 rfl rfl rfl ?_
        refine V_iconst 43 rfl (v := 1) dX4_readTraits_42 (by decide) ?_
        obtain ⟨x3, h1, h⟩ := zbd h
        refine V_cV 46 rfl 2 [zK 5 (2 * v1 + 1), zI 1] [] dX4_readTraits_43 cv_X4_104 (ctX4_readOfRow (Nat.le_refl 2) h1) (Nat.le_trans (by decide) hd) rfl rfl (Nat.le_of_ble_eq_true rfl) zoki rfl ?_
        refine V_istore_n 47 rfl 3 (L' := [some (zK 4 0), some (zK 7 v1), some (zI s.1), some (zI x3.1)]) dX4_readTraits_46 rfl (by decide) rfl ?_
        refine V_iload_n 48 rfl 3 dX4_readTraits_47 rfl rfl ?_
        refine V_iconst 49 rfl (v := (-1)) dX4_readTraits_48 (by decide) ?_
        refine V_icmp_ne 52 54 rfl dX4_readTraits_49 (by decide) (fun c => ?_) (fun c => ?_)
        · have h := zneg c h
          refine V_aload_n 55 rfl 1 dX4_readTraits_54 rfl rfl ?_
          refine V_iload_n 56 rfl 3 dX4_readTraits_55 rfl rfl ?_
          obtain ⟨x4, h1, h⟩ := zbd h
          refine V_cV 59 rfl 1 [zI x3.1] [] dX4_readTraits_56 cv_X4_117 (ctX7_addTrait (Nat.le_refl 1) h1) (Nat.le_trans (by decide) hd) rfl rfl (Nat.le_of_ble_eq_true rfl) zokn rfl ?_
          refine V_aload_n 60 rfl 0 dX4_readTraits_59 rfl rfl ?_
          refine V_geti 63 rfl dX4_readTraits_60 fl_X4_53 rfl ?_
          refine V_bipush 65 rfl (v := 40) dX4_readTraits_63 (by decide) ?_
          refine V_icmp_ne 68 79 rfl dX4_readTraits_65 (by decide) (fun c => ?_) (fun c => ?_)
          · have h := zneg c h
            refine V_iinc 82 rfl (s.1 + 1) (L' := [some (zK 4 0), some (zK 7 v1), some (zI (s.1 + 1)), some (zI x3.1)]) dX4_readTraits_79 rfl rfl (by decide) rfl ?_
            refine V_goto 6 dX4_readTraits_82 (by decide) ?_
            exact V_w (zsub_s (zsub_s (zsub_s (zsub_n zsub_0)))) (kc ((s.1 + 1), x4) (zinj h))
          · have h := zpos c h
            refine V_aload_n 69 rfl 0 dX4_readTraits_68 rfl rfl ?_
            refine V_aload_n 70 rfl 1 dX4_readTraits_69 rfl rfl ?_
            refine V_iload_n 71 rfl 2 dX4_readTraits_70 rfl rfl ?_
            obtain ⟨x5, h1, h⟩ := zbd h
            refine V_cV 74 rfl 2 [zK 7 v1, zI s.1] [] dX4_readTraits_71 cv_X4_120 (ctX4_readChanges (Nat.le_refl 2) h1) (Nat.le_trans (by decide) hd) rfl rfl (Nat.le_of_ble_eq_true rfl) zoki rfl ?_
            refine V_if_ne 77 79 rfl dX4_readTraits_74 (by decide) (fun c => ?_) (fun c => ?_)
            · have h := zneg c h
              refine V_iinc 82 rfl (s.1 + 1) (L' := [some (zK 4 0), some (zK 7 v1), some (zI (s.1 + 1)), some (zI x3.1)]) dX4_readTraits_79 rfl rfl (by decide) rfl ?_
              refine V_goto 6 dX4_readTraits_82 (by decide) ?_
              exact V_w (zsub_s (zsub_s (zsub_s (zsub_n zsub_0)))) (kc ((s.1 + 1), x5.2) (zinj h))
            · have h := zpos c h
              refine V_iconst 78 rfl (v := 0) dX4_readTraits_77 (by decide) ?_
              exact V_zret dX4_readTraits_78 rfl rfl (kr ((0, x5.2)) (zinj h))
        · have h := zpos c h
          refine V_iconst 53 rfl (v := 0) dX4_readTraits_52 (by decide) ?_
          exact V_zret dX4_readTraits_53 rfl rfl (kr ((0, x3.2)) (zinj h))
      · have h := zpos c h
        refine V_iload_n 20 rfl 2 dX4_readTraits_19 rfl rfl ?_
        refine V_if_gt 23 31 rfl dX4_readTraits_20 (by decide) (fun c => ?_) (fun c => ?_)
        · have h := zpos c h
          refine V_iconst 32 rfl (v := 1) dX4_readTraits_31 (by decide) ?_
          refine V_goto 36 dX4_readTraits_32 (by decide) ?_
          exact V_zret dX4_readTraits_36 rfl rfl (kr ((1, s.2)) (zinj h))
        · have h := zneg c h
          refine V_aload_n 24 rfl 0 dX4_readTraits_23 rfl rfl ?_
          refine V_iconst 25 rfl (v := 1) dX4_readTraits_24 (by decide) ?_
          obtain ⟨x6, h1, h⟩ := zbd h
          refine V_cV 28 rfl 0 [zI 1] [] dX4_readTraits_25 cv_X4_56 (ctX4_refuse (Nat.le_refl 0) h1) (Nat.le_trans (by decide) hd) rfl rfl (Nat.le_of_ble_eq_true rfl) zoki rfl ?_
          refine V_if_eq 31 35 rfl dX4_readTraits_28 (by decide) (fun c => ?_) (fun c => ?_)
          · have h := zpos c h
            refine V_iconst 36 rfl (v := 0) dX4_readTraits_35 (by decide) ?_
            exact V_zret dX4_readTraits_36 rfl rfl (kr ((0, x6.2)) (zinj h))
          · have h := zneg c h
            refine V_iconst 32 rfl (v := 1) dX4_readTraits_31 (by decide) ?_
            refine V_goto 36 dX4_readTraits_32 (by decide) ?_
            exact V_zret dX4_readTraits_36 rfl rfl (kr ((1, x6.2)) (zinj h))
theorem wX4_readTraits {E : zE} {d : Nat} (hd : 3 ≤ d) {Q : Option zV → zM → Prop} {v1 : Nat} {mm : zM} {o : (Int32 × zM)} (h : fX4_readTraits v1 mm = some o) (hQ : ∀ r, o = r → Q (some (zI r.1)) r.2) : V E RX4 cX4_readTraits 4 (some .boolean) d Q 0 [some (zK 4 0), some (zK 7 v1), none, none] [] mm := by
  unfold fX4_readTraits at h
  refine V_aload_n 1 rfl 0 dX4_readTraits_0 rfl rfl ?_
  obtain ⟨x1, h1, h⟩ := zbd h
  refine V_cV 4 rfl 0 [] [] dX4_readTraits_1 cv_X4_40 (ctX4_pass (Nat.le_refl 0) h1) (Nat.le_trans (by decide) hd) rfl rfl (Nat.le_of_ble_eq_true rfl) zokn rfl ?_
  refine V_iconst 5 rfl (v := 0) dX4_readTraits_4 (by decide) ?_
  refine V_istore_n 6 rfl 2 (L' := [some (zK 4 0), some (zK 7 v1), some (zI 0), none]) dX4_readTraits_5 rfl (by decide) rfl ?_
  obtain ⟨o9, h1, h⟩ := zbd h
  refine wX4_readTraits_L6 hd h1 (fun y7 e => ?_) (fun r e => by have h := zcr_ e h; exact hQ r (zinj h))
  have h := zcl_ e h
  refine V_iconst 86 rfl (v := 1) dX4_readTraits_85 (by decide) ?_
  exact V_zret dX4_readTraits_86 rfl rfl (hQ ((1, y7)) (zinj h))
theorem ctX4_readTraits {E : zE} {d : Nat} (hd : 3 ≤ d) {v1 : Nat} {mm : zM} {o : (Int32 × zM)} (h : fX4_readTraits v1 mm = some o) : zOC E yX4_readTraits cX4_readTraits 4 (some .boolean) d [zK 4 0, zK 7 v1] mm (some (zI o.1)) o.2 :=
  zCT_of (by decide) (Nat.le_of_ble_eq_true rfl) (zk_k (zk_k zk_0)) rfl (wX4_readTraits hd h (fun r e => ⟨by rw [e], by rw [e]⟩))
def fX4_readParents_L6 (v1 : Nat) (s : (Int32 × zM)) : Option ((Int32 × zM) ⊕ (zM ⊕ (Int32 × zM))) :=
  if 4 < s.1 then (some (.inr (.inl s.2))) else ((fX4_nameHere s.2).bind (fun x2 => if x2 = (-1) then (if 0 < s.1 then (some (.inr (.inr ((1, s.2))))) else ((fX4_refuse 1 s.2).bind (fun x5 => if x5.1 = 0 then (some (.inr (.inr ((0, x5.2))))) else (some (.inr (.inr ((1, x5.2)))))))) else ((fX4_readOfRow ((2 * v1)) 0 s.2).bind (fun x3 => if x3.1 = (-1) then (some (.inr (.inr ((0, x3.2))))) else ((fX5_add ((2 * v1)) x3.1 x3.2).bind (fun x4 => some (.inl ((s.1 + 1), x4))))))))
def fX4_readParents (v1 : Nat) (mm : zM) : Option (Int32 × zM) :=
  (fX4_pass mm).bind (fun x1 => (zloop (fX4_readParents_L6 v1) zF (0, x1)).bind (fun o8 => zcase o8 (fun y6 => some ((1, y6))) (fun r7 => some r7)))
theorem wX4_readParents_L6 {E : zE} {d : Nat} (hd : 3 ≤ d) {Q : Option zV → zM → Prop} {v1 : Nat} {n : Nat} {s : (Int32 × zM)} {o : zM ⊕ (Int32 × zM)} (h : zloop (fX4_readParents_L6 v1) n s = some o) (he : ∀ y : zM, o = .inl y → V E RX4 cX4_readParents 4 (some .boolean) d Q 68 [none, none, none, none] [] y) (hr : ∀ r : (Int32 × zM), o = .inr r → Q (some (zI r.1)) r.2) : V E RX4 cX4_readParents 4 (some .boolean) d Q 6 [some (zK 4 0), some (zK 7 v1), some (zI s.1), none] [] s.2 := by
  induction n generalizing s with
  | zero => exact (zloop_0 h).elim
  | succ n ih =>
    obtain ⟨o1, h1, hc1, he1⟩ := zloop_s h
    have kc : ∀ s' : (Int32 × zM), o1 = .inl s' → V E RX4 cX4_readParents 4 (some .boolean) d Q 6 [some (zK 4 0), some (zK 7 v1), some (zI s'.1), none] [] s'.2 := fun s' e => ih (hc1 s' e)
    have ke : ∀ y : zM, o1 = .inr (.inl y) → V E RX4 cX4_readParents 4 (some .boolean) d Q 68 [none, none, none, none] [] y := fun y e => he y (he1 _ e)
    have kr : ∀ r : (Int32 × zM), o1 = .inr (.inr r) → Q (some (zI r.1)) r.2 := fun r e => hr r (he1 _ e)
    clear h hc1 he1 ih
    have h := h1
    clear h1
    unfold fX4_readParents_L6 at h
    refine V_iload_n 7 rfl 2 dX4_readParents_6 rfl rfl ?_
    refine V_iconst 8 rfl (v := 4) dX4_readParents_7 (by decide) ?_
    refine V_icmp_gt 11 68 rfl dX4_readParents_8 (by decide) (fun c => ?_) (fun c => ?_)
    · have h := zpos c h
      exact V_w (zsub_n (zsub_n (zsub_n (zsub_s zsub_0)))) (ke s.2 (zinj h))
    · have h := zneg c h
      refine V_aload_n 12 rfl 0 dX4_readParents_11 rfl rfl ?_
      obtain ⟨x2, h1, h⟩ := zbd h
      refine V_cV 15 rfl 0 [] [] dX4_readParents_12 cv_X4_68 (ctX4_nameHere (Nat.le_refl 0) h1) (Nat.le_trans (by decide) hd) rfl rfl (Nat.le_of_ble_eq_true rfl) zoki rfl ?_
      refine V_iconst 16 rfl (v := (-1)) dX4_readParents_15 (by decide) ?_
      refine V_icmp_ne 19 37 rfl dX4_readParents_16 (by decide) (fun c => ?_) (fun c => ?_)
      · have h := zneg c h
        refine V_aload_n 38 rfl 0 dX4_readParents_37 rfl rfl ?_
        refine V_aload_n 39 rfl 1 dX4_readParents_38 rfl rfl ?_
        refine V_getr 42 rfl 5 (2 * v1) dX4_readParents_39 fl_X4_100 rfl rfl rfl ?_
        refine V_iconst 43 rfl (v := 0) dX4_readParents_42 (by decide) ?_
        obtain ⟨x3, h1, h⟩ := zbd h
        refine V_cV 46 rfl 2 [zK 5 (2 * v1), zI 0] [] dX4_readParents_43 cv_X4_104 (ctX4_readOfRow (Nat.le_refl 2) h1) (Nat.le_trans (by decide) hd) rfl rfl (Nat.le_of_ble_eq_true rfl) zoki rfl ?_
        refine V_istore_n 47 rfl 3 (L' := [some (zK 4 0), some (zK 7 v1), some (zI s.1), some (zI x3.1)]) dX4_readParents_46 rfl (by decide) rfl ?_
        refine V_iload_n 48 rfl 3 dX4_readParents_47 rfl rfl ?_
        refine V_iconst 49 rfl (v := (-1)) dX4_readParents_48 (by decide) ?_
        refine V_icmp_ne 52 54 rfl dX4_readParents_49 (by decide) (fun c => ?_) (fun c => ?_)
        · have h := zneg c h
          refine V_aload_n 55 rfl 1 dX4_readParents_54 rfl rfl ?_
          refine V_getr 58 rfl 5 (2 * v1) dX4_readParents_55 fl_X4_100 rfl rfl rfl ?_
          refine V_iload_n 59 rfl 3 dX4_readParents_58 rfl rfl ?_
          obtain ⟨x4, h1, h⟩ := zbd h
          refine V_cV 62 rfl 0 [zI x3.1] [] dX4_readParents_59 cv_X4_108 (ctX5_add (Nat.le_refl 0) h1) (Nat.le_trans (by decide) hd) rfl rfl (Nat.le_of_ble_eq_true rfl) zokn rfl ?_
          refine V_iinc 65 rfl (s.1 + 1) (L' := [some (zK 4 0), some (zK 7 v1), some (zI (s.1 + 1)), some (zI x3.1)]) dX4_readParents_62 rfl rfl (by decide) rfl ?_
          refine V_goto 6 dX4_readParents_65 (by decide) ?_
          exact V_w (zsub_s (zsub_s (zsub_s (zsub_n zsub_0)))) (kc ((s.1 + 1), x4) (zinj h))
        · have h := zpos c h
          refine V_iconst 53 rfl (v := 0) dX4_readParents_52 (by decide) ?_
          exact V_zret dX4_readParents_53 rfl rfl (kr ((0, x3.2)) (zinj h))
      · have h := zpos c h
        refine V_iload_n 20 rfl 2 dX4_readParents_19 rfl rfl ?_
        refine V_if_gt 23 31 rfl dX4_readParents_20 (by decide) (fun c => ?_) (fun c => ?_)
        · have h := zpos c h
          refine V_iconst 32 rfl (v := 1) dX4_readParents_31 (by decide) ?_
          refine V_goto 36 dX4_readParents_32 (by decide) ?_
          exact V_zret dX4_readParents_36 rfl rfl (kr ((1, s.2)) (zinj h))
        · have h := zneg c h
          refine V_aload_n 24 rfl 0 dX4_readParents_23 rfl rfl ?_
          refine V_iconst 25 rfl (v := 1) dX4_readParents_24 (by decide) ?_
          obtain ⟨x5, h1, h⟩ := zbd h
          refine V_cV 28 rfl 0 [zI 1] [] dX4_readParents_25 cv_X4_56 (ctX4_refuse (Nat.le_refl 0) h1) (Nat.le_trans (by decide) hd) rfl rfl (Nat.le_of_ble_eq_true rfl) zoki rfl ?_
          refine V_if_eq 31 35 rfl dX4_readParents_28 (by decide) (fun c => ?_) (fun c => ?_)
          · have h := zpos c h
            refine V_iconst 36 rfl (v := 0) dX4_readParents_35 (by decide) ?_
            exact V_zret dX4_readParents_36 rfl rfl (kr ((0, x5.2)) (zinj h))
          · have h := zneg c h
            refine V_iconst 32 rfl (v := 1) dX4_readParents_31 (by decide) ?_
            refine V_goto 36 dX4_readParents_32 (by decide) ?_
            exact V_zret dX4_readParents_36 rfl rfl (kr ((1, x5.2)) (zinj h))
theorem wX4_readParents {E : zE} {d : Nat} (hd : 3 ≤ d) {Q : Option zV → zM → Prop} {v1 : Nat} {mm : zM} {o : (Int32 × zM)} (h : fX4_readParents v1 mm = some o) (hQ : ∀ r, o = r → Q (some (zI r.1)) r.2) : V E RX4 cX4_readParents 4 (some .boolean) d Q 0 [some (zK 4 0), some (zK 7 v1), none, none] [] mm := by
  unfold fX4_readParents at h
  refine V_aload_n 1 rfl 0 dX4_readParents_0 rfl rfl ?_
  obtain ⟨x1, h1, h⟩ := zbd h
  refine V_cV 4 rfl 0 [] [] dX4_readParents_1 cv_X4_40 (ctX4_pass (Nat.le_refl 0) h1) (Nat.le_trans (by decide) hd) rfl rfl (Nat.le_of_ble_eq_true rfl) zokn rfl ?_
  refine V_iconst 5 rfl (v := 0) dX4_readParents_4 (by decide) ?_
  refine V_istore_n 6 rfl 2 (L' := [some (zK 4 0), some (zK 7 v1), some (zI 0), none]) dX4_readParents_5 rfl (by decide) rfl ?_
  obtain ⟨o8, h1, h⟩ := zbd h
  refine wX4_readParents_L6 hd h1 (fun y6 e => ?_) (fun r e => by have h := zcr_ e h; exact hQ r (zinj h))
  have h := zcl_ e h
  refine V_iconst 69 rfl (v := 1) dX4_readParents_68 (by decide) ?_
  exact V_zret dX4_readParents_69 rfl rfl (hQ ((1, y6)) (zinj h))
theorem ctX4_readParents {E : zE} {d : Nat} (hd : 3 ≤ d) {v1 : Nat} {mm : zM} {o : (Int32 × zM)} (h : fX4_readParents v1 mm = some o) : zOC E yX4_readParents cX4_readParents 4 (some .boolean) d [zK 4 0, zK 7 v1] mm (some (zI o.1)) o.2 :=
  zCT_of (by decide) (Nat.le_of_ble_eq_true rfl) (zk_k (zk_k zk_0)) rfl (wX4_readParents hd h (fun r e => ⟨by rw [e], by rw [e]⟩))
def fX4_readUnit_J192 (s0 : Int32) (mm : zM) : Option (Int32 × zM) :=
  if s0 = 0 then (zob (zbo s0) (some ((s0, mm)))) else ((gr mm 4 7).bind (fun j11 => zob (zbo s0) (some ((s0, (wi mm 8 j11 1 ((((gi mm 8 j11 1)) + 1))))))))
def fX4_readUnit_J191 (mm : zM) : Option (Int32 × zM) :=
  fX4_readUnit_J192 0 mm
def fX4_readUnit_J187 (mm : zM) : Option (Int32 × zM) :=
  fX4_readUnit_J192 1 mm
def fX4_readUnit_J163 (v3 : Nat) (s0 : Int32) (mm : zM) : Option (Int32 × zM) :=
  if s0 = 0 then (fX4_readUnit_J191  mm) else (if (gi mm 4 0 4) = 58 then ((fX4_readMembers v3 mm).bind (fun x12 => if x12.1 = 0 then (fX4_readUnit_J191  x12.2) else (fX4_readUnit_J187  x12.2))) else (fX4_readUnit_J187  mm))
def fX4_readUnit_J162 (v3 : Nat) (mm : zM) : Option (Int32 × zM) :=
  fX4_readUnit_J163 v3 0 mm
def fX4_readUnit_J158 (v3 : Nat) (mm : zM) : Option (Int32 × zM) :=
  fX4_readUnit_J163 v3 1 mm
def fX4_readUnit_J134 (v3 : Nat) (s0 : Int32) (mm : zM) : Option (Int32 × zM) :=
  if s0 = 0 then (fX4_readUnit_J162 v3 mm) else ((fX4_isWord 3 mm).bind (fun x13 => if x13 = 0 then (fX4_readUnit_J158 v3 mm) else ((fX4_readTraits v3 mm).bind (fun x14 => if x14.1 = 0 then (fX4_readUnit_J162 v3 x14.2) else (fX4_readUnit_J158 v3 x14.2)))))
def fX4_readUnit_J129 (v3 : Nat) (mm : zM) : Option (Int32 × zM) :=
  fX4_readUnit_J134 v3 1 mm
def fX4_readUnit_J26 (v1 : Int32) (mm : zM) : Option (Int32 × zM) :=
  (gr mm 4 7).bind (fun j2 => if (gi mm 8 j2 1) < 12 then ((fX4_pass mm).bind (fun x3 => (fX4_nameHere x3).bind (fun x4 => if x4 = (-1) then ((fX4_refuse 1 x3).bind (fun x18 => zob (zbo x18.1) (some ((x18.1, x18.2))))) else ((gr x3 4 7).bind (fun j5 => (fX8_indexOf j5 x4 x3).bind (fun x6 => if x6 = (-1) then ((fX4_pass x3).bind (fun x7 => (gr x7 4 7).bind (fun j8 => (gr x7 4 7).bind (fun j9 => zob (zin ((gi x7 8 j9 1)) 12) ((fX7_open ((12 * j8 + zn ((gi x7 8 j9 1)))) v1 x4 x7).bind (fun x10 => if v1 = 0 then ((fX4_isWord 2 x10).bind (fun x15 => if x15 = 0 then (fX4_readUnit_J129 ((12 * j8 + zn ((gi x7 8 j9 1)))) x10) else ((fX4_readParents ((12 * j8 + zn ((gi x7 8 j9 1)))) x10).bind (fun x16 => if x16.1 = 0 then (fX4_readUnit_J134 ((12 * j8 + zn ((gi x7 8 j9 1)))) 0 x16.2) else (fX4_readUnit_J129 ((12 * j8 + zn ((gi x7 8 j9 1)))) x16.2))))) else (fX4_readUnit_J129 ((12 * j8 + zn ((gi x7 8 j9 1)))) x10))))))) else ((fX4_refuse 2 x3).bind (fun x17 => zob (zbo x17.1) (some ((x17.1, x17.2))))))))))) else ((fX4_refuse 3 mm).bind (fun x19 => zob (zbo x19.1) (some ((x19.1, x19.2))))))
def fX4_readUnit (mm : zM) : Option (Int32 × zM) :=
  (fX4_isWord 0 mm).bind (fun x1 => if x1 = 0 then ((fX4_isWord 1 mm).bind (fun x20 => if x20 = 0 then ((fX4_refuse 1 mm).bind (fun x21 => zob (zbo x21.1) (some ((x21.1, x21.2))))) else (fX4_readUnit_J26 x1 mm))) else (fX4_readUnit_J26 x1 mm))
theorem wX4_readUnit_J192 {E : zE} {d : Nat} (hd : 10 ≤ d) {Q : Option zV → zM → Prop} {s0 : Int32} {mm : zM} {o : (Int32 × zM)} (h : fX4_readUnit_J192 s0 mm = some o) (hQ : ∀ r, o = r → Q (some (zI r.1)) r.2) : V E RX4 cX4_readUnit 5 (some .boolean) d Q 192 [some (zK 4 0), none, none, none, none] [zI s0] mm := by
  unfold fX4_readUnit_J192 at h
  refine V_istore 194 rfl (L' := [some (zK 4 0), none, none, none, some (zI s0)]) dX4_readUnit_192 (by decide) rfl ?_
  refine V_iload 196 rfl dX4_readUnit_194 rfl ?_
  refine V_if_eq 199 212 rfl dX4_readUnit_196 (by decide) (fun c => ?_) (fun c => ?_)
  · have h := zpos c h
    refine V_iload 214 rfl dX4_readUnit_212 rfl ?_
    obtain ⟨hi, h⟩ := zobd h
    exact V_zret dX4_readUnit_214 rfl (zbo_n hi) (hQ ((s0, mm)) (zinj h))
  · have h := zneg c h
    refine V_aload_n 200 rfl 0 dX4_readUnit_199 rfl rfl ?_
    obtain ⟨j11, hj, h⟩ := zbd h
    refine V_getm 203 rfl 8 dX4_readUnit_200 fl_X4_25 rfl rfl hj ?_
    refine V_dup 204 rfl dX4_readUnit_203 rfl ?_
    refine V_geti 207 rfl dX4_readUnit_204 fl_X4_29 rfl ?_
    refine V_iconst 208 rfl (v := 1) dX4_readUnit_207 (by decide) ?_
    refine V_iadd 209 rfl dX4_readUnit_208 ?_
    refine V_puti 212 rfl dX4_readUnit_209 fw_X4_29 rfl rfl rfl ?_
    refine V_iload 214 rfl dX4_readUnit_212 rfl ?_
    obtain ⟨hi, h⟩ := zobd h
    exact V_zret dX4_readUnit_214 rfl (zbo_n hi) (hQ ((s0, (wi mm 8 j11 1 ((((gi mm 8 j11 1)) + 1))))) (zinj h))
theorem wX4_readUnit_J191 {E : zE} {d : Nat} (hd : 10 ≤ d) {Q : Option zV → zM → Prop} {mm : zM} {o : (Int32 × zM)} (h : fX4_readUnit_J191  mm = some o) (hQ : ∀ r, o = r → Q (some (zI r.1)) r.2) : V E RX4 cX4_readUnit 5 (some .boolean) d Q 191 [some (zK 4 0), none, none, none, none] [] mm := by
  unfold fX4_readUnit_J191 at h
  refine V_iconst 192 rfl (v := 0) dX4_readUnit_191 (by decide) ?_
  exact wX4_readUnit_J192 hd h hQ
theorem wX4_readUnit_J187 {E : zE} {d : Nat} (hd : 10 ≤ d) {Q : Option zV → zM → Prop} {mm : zM} {o : (Int32 × zM)} (h : fX4_readUnit_J187  mm = some o) (hQ : ∀ r, o = r → Q (some (zI r.1)) r.2) : V E RX4 cX4_readUnit 5 (some .boolean) d Q 187 [some (zK 4 0), none, none, none, none] [] mm := by
  unfold fX4_readUnit_J187 at h
  refine V_iconst 188 rfl (v := 1) dX4_readUnit_187 (by decide) ?_
  refine V_goto 192 dX4_readUnit_188 (by decide) ?_
  exact wX4_readUnit_J192 hd h hQ
theorem wX4_readUnit_J163 {E : zE} {d : Nat} (hd : 10 ≤ d) {Q : Option zV → zM → Prop} {v3 : Nat} {s0 : Int32} {mm : zM} {o : (Int32 × zM)} (h : fX4_readUnit_J163 v3 s0 mm = some o) (hQ : ∀ r, o = r → Q (some (zI r.1)) r.2) : V E RX4 cX4_readUnit 5 (some .boolean) d Q 163 [some (zK 4 0), none, none, some (zK 7 v3), none] [zI s0] mm := by
  unfold fX4_readUnit_J163 at h
  refine V_istore 165 rfl (L' := [some (zK 4 0), none, none, some (zK 7 v3), some (zI s0)]) dX4_readUnit_163 (by decide) rfl ?_
  refine V_iload 167 rfl dX4_readUnit_165 rfl ?_
  refine V_if_eq 170 191 rfl dX4_readUnit_167 (by decide) (fun c => ?_) (fun c => ?_)
  · have h := zpos c h
    exact V_w (zsub_s (zsub_s (zsub_s (zsub_n (zsub_n zsub_0))))) (wX4_readUnit_J191 hd h hQ)
  · have h := zneg c h
    refine V_aload_n 171 rfl 0 dX4_readUnit_170 rfl rfl ?_
    refine V_geti 174 rfl dX4_readUnit_171 fl_X4_53 rfl ?_
    refine V_bipush 176 rfl (v := 58) dX4_readUnit_174 (by decide) ?_
    refine V_icmp_ne 179 187 rfl dX4_readUnit_176 (by decide) (fun c => ?_) (fun c => ?_)
    · have h := zneg c h
      exact V_w (zsub_s (zsub_s (zsub_s (zsub_n (zsub_n zsub_0))))) (wX4_readUnit_J187 hd h hQ)
    · have h := zpos c h
      refine V_aload_n 180 rfl 0 dX4_readUnit_179 rfl rfl ?_
      refine V_aload_n 181 rfl 3 dX4_readUnit_180 rfl rfl ?_
      obtain ⟨x12, h1, h⟩ := zbd h
      refine V_cV 184 rfl 9 [zK 7 v3] [] dX4_readUnit_181 cv_X4_97 (ctX4_readMembers (Nat.le_refl 9) h1) (Nat.le_trans (by decide) hd) rfl rfl (Nat.le_of_ble_eq_true rfl) zoki rfl ?_
      refine V_if_eq 187 191 rfl dX4_readUnit_184 (by decide) (fun c => ?_) (fun c => ?_)
      · have h := zpos c h
        exact V_w (zsub_s (zsub_s (zsub_s (zsub_n (zsub_n zsub_0))))) (wX4_readUnit_J191 hd h hQ)
      · have h := zneg c h
        exact V_w (zsub_s (zsub_s (zsub_s (zsub_n (zsub_n zsub_0))))) (wX4_readUnit_J187 hd h hQ)
theorem wX4_readUnit_J162 {E : zE} {d : Nat} (hd : 10 ≤ d) {Q : Option zV → zM → Prop} {v3 : Nat} {mm : zM} {o : (Int32 × zM)} (h : fX4_readUnit_J162 v3 mm = some o) (hQ : ∀ r, o = r → Q (some (zI r.1)) r.2) : V E RX4 cX4_readUnit 5 (some .boolean) d Q 162 [some (zK 4 0), none, none, some (zK 7 v3), none] [] mm := by
  unfold fX4_readUnit_J162 at h
  refine V_iconst 163 rfl (v := 0) dX4_readUnit_162 (by decide) ?_
  exact wX4_readUnit_J163 hd h hQ
theorem wX4_readUnit_J158 {E : zE} {d : Nat} (hd : 10 ≤ d) {Q : Option zV → zM → Prop} {v3 : Nat} {mm : zM} {o : (Int32 × zM)} (h : fX4_readUnit_J158 v3 mm = some o) (hQ : ∀ r, o = r → Q (some (zI r.1)) r.2) : V E RX4 cX4_readUnit 5 (some .boolean) d Q 158 [some (zK 4 0), none, none, some (zK 7 v3), none] [] mm := by
  unfold fX4_readUnit_J158 at h
  refine V_iconst 159 rfl (v := 1) dX4_readUnit_158 (by decide) ?_
  refine V_goto 163 dX4_readUnit_159 (by decide) ?_
  exact wX4_readUnit_J163 hd h hQ
theorem wX4_readUnit_J134 {E : zE} {d : Nat} (hd : 10 ≤ d) {Q : Option zV → zM → Prop} {v3 : Nat} {s0 : Int32} {mm : zM} {o : (Int32 × zM)} (h : fX4_readUnit_J134 v3 s0 mm = some o) (hQ : ∀ r, o = r → Q (some (zI r.1)) r.2) : V E RX4 cX4_readUnit 5 (some .boolean) d Q 134 [some (zK 4 0), none, none, some (zK 7 v3), none] [zI s0] mm := by
  unfold fX4_readUnit_J134 at h
  refine V_istore 136 rfl (L' := [some (zK 4 0), none, none, some (zK 7 v3), some (zI s0)]) dX4_readUnit_134 (by decide) rfl ?_
  refine V_iload 138 rfl dX4_readUnit_136 rfl ?_
  refine V_if_eq 141 162 rfl dX4_readUnit_138 (by decide) (fun c => ?_) (fun c => ?_)
  · have h := zpos c h
    exact V_w (zsub_s (zsub_s (zsub_s (zsub_s (zsub_n zsub_0))))) (wX4_readUnit_J162 hd h hQ)
  · have h := zneg c h
    refine V_aload_n 142 rfl 0 dX4_readUnit_141 rfl rfl ?_
    refine V_ldcS 144 rfl (tx := "uses") (i := 3) dX4_readUnit_142 (by decide) (by decide) ?_
    obtain ⟨x13, h1, h⟩ := zbd h
    refine V_cV 147 rfl 6 [zK 61 3] [] dX4_readUnit_144 cv_X4_62 (ctX4_isWord (Nat.le_refl 6) h1) (Nat.le_trans (by decide) hd) rfl rfl (Nat.le_of_ble_eq_true rfl) zoki rfl ?_
    refine V_if_eq 150 158 rfl dX4_readUnit_147 (by decide) (fun c => ?_) (fun c => ?_)
    · have h := zpos c h
      exact V_w (zsub_s (zsub_s (zsub_s (zsub_s (zsub_n zsub_0))))) (wX4_readUnit_J158 hd h hQ)
    · have h := zneg c h
      refine V_aload_n 151 rfl 0 dX4_readUnit_150 rfl rfl ?_
      refine V_aload_n 152 rfl 3 dX4_readUnit_151 rfl rfl ?_
      obtain ⟨x14, h1, h⟩ := zbd h
      refine V_cV 155 rfl 3 [zK 7 v3] [] dX4_readUnit_152 cv_X4_94 (ctX4_readTraits (Nat.le_refl 3) h1) (Nat.le_trans (by decide) hd) rfl rfl (Nat.le_of_ble_eq_true rfl) zoki rfl ?_
      refine V_if_eq 158 162 rfl dX4_readUnit_155 (by decide) (fun c => ?_) (fun c => ?_)
      · have h := zpos c h
        exact V_w (zsub_s (zsub_s (zsub_s (zsub_s (zsub_n zsub_0))))) (wX4_readUnit_J162 hd h hQ)
      · have h := zneg c h
        exact V_w (zsub_s (zsub_s (zsub_s (zsub_s (zsub_n zsub_0))))) (wX4_readUnit_J158 hd h hQ)
theorem wX4_readUnit_J129 {E : zE} {d : Nat} (hd : 10 ≤ d) {Q : Option zV → zM → Prop} {v3 : Nat} {mm : zM} {o : (Int32 × zM)} (h : fX4_readUnit_J129 v3 mm = some o) (hQ : ∀ r, o = r → Q (some (zI r.1)) r.2) : V E RX4 cX4_readUnit 5 (some .boolean) d Q 129 [some (zK 4 0), none, none, some (zK 7 v3), none] [] mm := by
  unfold fX4_readUnit_J129 at h
  refine V_iconst 130 rfl (v := 1) dX4_readUnit_129 (by decide) ?_
  refine V_goto 134 dX4_readUnit_130 (by decide) ?_
  exact wX4_readUnit_J134 hd h hQ
theorem wX4_readUnit_J26 {E : zE} {d : Nat} (hd : 10 ≤ d) {Q : Option zV → zM → Prop} {v1 : Int32} {mm : zM} {o : (Int32 × zM)} (h : fX4_readUnit_J26 v1 mm = some o) (hQ : ∀ r, o = r → Q (some (zI r.1)) r.2) : V E RX4 cX4_readUnit 5 (some .boolean) d Q 26 [some (zK 4 0), some (zI v1), none, none, none] [] mm := by
  unfold fX4_readUnit_J26 at h
  refine V_aload_n 27 rfl 0 dX4_readUnit_26 rfl rfl ?_
  obtain ⟨j2, hj, h⟩ := zbd h
  refine V_getm 30 rfl 8 dX4_readUnit_27 fl_X4_25 rfl rfl hj ?_
  refine V_geti 33 rfl dX4_readUnit_30 fl_X4_29 rfl ?_
  refine V_bipush 35 rfl (v := 12) dX4_readUnit_33 (by decide) ?_
  refine V_icmp_lt 38 44 rfl dX4_readUnit_35 (by decide) (fun c => ?_) (fun c => ?_)
  · have h := zpos c h
    refine V_aload_n 45 rfl 0 dX4_readUnit_44 rfl rfl ?_
    obtain ⟨x3, h1, h⟩ := zbd h
    refine V_cV 48 rfl 0 [] [] dX4_readUnit_45 cv_X4_40 (ctX4_pass (Nat.le_refl 0) h1) (Nat.le_trans (by decide) hd) rfl rfl (Nat.le_of_ble_eq_true rfl) zokn rfl ?_
    refine V_aload_n 49 rfl 0 dX4_readUnit_48 rfl rfl ?_
    obtain ⟨x4, h1, h⟩ := zbd h
    refine V_cV 52 rfl 0 [] [] dX4_readUnit_49 cv_X4_68 (ctX4_nameHere (Nat.le_refl 0) h1) (Nat.le_trans (by decide) hd) rfl rfl (Nat.le_of_ble_eq_true rfl) zoki rfl ?_
    refine V_istore_n 53 rfl 2 (L' := [some (zK 4 0), some (zI v1), some (zI x4), none, none]) dX4_readUnit_52 rfl (by decide) rfl ?_
    refine V_iload_n 54 rfl 2 dX4_readUnit_53 rfl rfl ?_
    refine V_iconst 55 rfl (v := (-1)) dX4_readUnit_54 (by decide) ?_
    refine V_icmp_ne 58 64 rfl dX4_readUnit_55 (by decide) (fun c => ?_) (fun c => ?_)
    · have h := zneg c h
      refine V_aload_n 65 rfl 0 dX4_readUnit_64 rfl rfl ?_
      obtain ⟨j5, hj, h⟩ := zbd h
      refine V_getm 68 rfl 8 dX4_readUnit_65 fl_X4_25 rfl rfl hj ?_
      refine V_iload_n 69 rfl 2 dX4_readUnit_68 rfl rfl ?_
      obtain ⟨x6, h1, h⟩ := zbd h
      refine V_cV 72 rfl 0 [zI x4] [] dX4_readUnit_69 cv_X4_72 (ctX8_indexOf (Nat.le_refl 0) h1) (Nat.le_trans (by decide) hd) rfl rfl (Nat.le_of_ble_eq_true rfl) zoki rfl ?_
      refine V_iconst 73 rfl (v := (-1)) dX4_readUnit_72 (by decide) ?_
      refine V_icmp_eq 76 82 rfl dX4_readUnit_73 (by decide) (fun c => ?_) (fun c => ?_)
      · have h := zpos c h
        refine V_aload_n 83 rfl 0 dX4_readUnit_82 rfl rfl ?_
        obtain ⟨x7, h1, h⟩ := zbd h
        refine V_cV 86 rfl 0 [] [] dX4_readUnit_83 cv_X4_40 (ctX4_pass (Nat.le_refl 0) h1) (Nat.le_trans (by decide) hd) rfl rfl (Nat.le_of_ble_eq_true rfl) zokn rfl ?_
        refine V_aload_n 87 rfl 0 dX4_readUnit_86 rfl rfl ?_
        obtain ⟨j8, hj, h⟩ := zbd h
        refine V_getm 90 rfl 8 dX4_readUnit_87 fl_X4_25 rfl rfl hj ?_
        refine V_getr 93 rfl 35 j8 dX4_readUnit_90 fl_X4_76 rfl rfl rfl ?_
        refine V_aload_n 94 rfl 0 dX4_readUnit_93 rfl rfl ?_
        obtain ⟨j9, hj, h⟩ := zbd h
        refine V_getm 97 rfl 8 dX4_readUnit_94 fl_X4_25 rfl rfl hj ?_
        refine V_geti 100 rfl dX4_readUnit_97 fl_X4_29 rfl ?_
        obtain ⟨hi, h⟩ := zobd h
        refine V_aald 101 rfl 7 (12 * j8 + zn ((gi x7 8 j9 1))) dX4_readUnit_100 rfl (by decide) (by decide) rfl rfl hi ?_
        refine V_astore_n 102 rfl 3 (L' := [some (zK 4 0), some (zI v1), some (zI x4), some (zK 7 (12 * j8 + zn ((gi x7 8 j9 1)))), none]) dX4_readUnit_101 rfl (by decide) rfl ?_
        refine V_aload_n 103 rfl 3 dX4_readUnit_102 rfl rfl ?_
        refine V_iload_n 104 rfl 1 dX4_readUnit_103 rfl rfl ?_
        refine V_iload_n 105 rfl 2 dX4_readUnit_104 rfl rfl ?_
        obtain ⟨x10, h1, h⟩ := zbd h
        refine V_cV 108 rfl 1 [zI v1, zI x4] [] dX4_readUnit_105 cv_X4_80 (ctX7_open (Nat.le_refl 1) h1) (Nat.le_trans (by decide) hd) rfl rfl (Nat.le_of_ble_eq_true rfl) zokn rfl ?_
        refine V_iload_n 109 rfl 1 dX4_readUnit_108 rfl rfl ?_
        refine V_if_ne 112 129 rfl dX4_readUnit_109 (by decide) (fun c => ?_) (fun c => ?_)
        · have h := zneg c h
          exact V_w (zsub_s (zsub_n (zsub_n (zsub_s (zsub_s zsub_0))))) (wX4_readUnit_J129 hd h hQ)
        · have h := zpos c h
          refine V_aload_n 113 rfl 0 dX4_readUnit_112 rfl rfl ?_
          refine V_ldcS 115 rfl (tx := "of") (i := 2) dX4_readUnit_113 (by decide) (by decide) ?_
          obtain ⟨x15, h1, h⟩ := zbd h
          refine V_cV 118 rfl 6 [zK 61 2] [] dX4_readUnit_115 cv_X4_62 (ctX4_isWord (Nat.le_refl 6) h1) (Nat.le_trans (by decide) hd) rfl rfl (Nat.le_of_ble_eq_true rfl) zoki rfl ?_
          refine V_if_eq 121 129 rfl dX4_readUnit_118 (by decide) (fun c => ?_) (fun c => ?_)
          · have h := zpos c h
            exact V_w (zsub_s (zsub_n (zsub_n (zsub_s (zsub_s zsub_0))))) (wX4_readUnit_J129 hd h hQ)
          · have h := zneg c h
            refine V_aload_n 122 rfl 0 dX4_readUnit_121 rfl rfl ?_
            refine V_aload_n 123 rfl 3 dX4_readUnit_122 rfl rfl ?_
            obtain ⟨x16, h1, h⟩ := zbd h
            refine V_cV 126 rfl 3 [zK 7 (12 * j8 + zn ((gi x7 8 j9 1)))] [] dX4_readUnit_123 cv_X4_88 (ctX4_readParents (Nat.le_refl 3) h1) (Nat.le_trans (by decide) hd) rfl rfl (Nat.le_of_ble_eq_true rfl) zoki rfl ?_
            refine V_if_eq 129 133 rfl dX4_readUnit_126 (by decide) (fun c => ?_) (fun c => ?_)
            · have h := zpos c h
              refine V_iconst 134 rfl (v := 0) dX4_readUnit_133 (by decide) ?_
              exact V_w (zsub_s (zsub_n (zsub_n (zsub_s (zsub_s zsub_0))))) (wX4_readUnit_J134 hd h hQ)
            · have h := zneg c h
              exact V_w (zsub_s (zsub_n (zsub_n (zsub_s (zsub_s zsub_0))))) (wX4_readUnit_J129 hd h hQ)
      · have h := zneg c h
        refine V_aload_n 77 rfl 0 dX4_readUnit_76 rfl rfl ?_
        refine V_iconst 78 rfl (v := 2) dX4_readUnit_77 (by decide) ?_
        obtain ⟨x17, h1, h⟩ := zbd h
        refine V_cV 81 rfl 0 [zI 2] [] dX4_readUnit_78 cv_X4_56 (ctX4_refuse (Nat.le_refl 0) h1) (Nat.le_trans (by decide) hd) rfl rfl (Nat.le_of_ble_eq_true rfl) zoki rfl ?_
        obtain ⟨hi, h⟩ := zobd h
        exact V_zret dX4_readUnit_81 rfl (zbo_n hi) (hQ ((x17.1, x17.2)) (zinj h))
    · have h := zpos c h
      refine V_aload_n 59 rfl 0 dX4_readUnit_58 rfl rfl ?_
      refine V_iconst 60 rfl (v := 1) dX4_readUnit_59 (by decide) ?_
      obtain ⟨x18, h1, h⟩ := zbd h
      refine V_cV 63 rfl 0 [zI 1] [] dX4_readUnit_60 cv_X4_56 (ctX4_refuse (Nat.le_refl 0) h1) (Nat.le_trans (by decide) hd) rfl rfl (Nat.le_of_ble_eq_true rfl) zoki rfl ?_
      obtain ⟨hi, h⟩ := zobd h
      exact V_zret dX4_readUnit_63 rfl (zbo_n hi) (hQ ((x18.1, x18.2)) (zinj h))
  · have h := zneg c h
    refine V_aload_n 39 rfl 0 dX4_readUnit_38 rfl rfl ?_
    refine V_iconst 40 rfl (v := 3) dX4_readUnit_39 (by decide) ?_
    obtain ⟨x19, h1, h⟩ := zbd h
    refine V_cV 43 rfl 0 [zI 3] [] dX4_readUnit_40 cv_X4_56 (ctX4_refuse (Nat.le_refl 0) h1) (Nat.le_trans (by decide) hd) rfl rfl (Nat.le_of_ble_eq_true rfl) zoki rfl ?_
    obtain ⟨hi, h⟩ := zobd h
    exact V_zret dX4_readUnit_43 rfl (zbo_n hi) (hQ ((x19.1, x19.2)) (zinj h))
theorem wX4_readUnit {E : zE} {d : Nat} (hd : 10 ≤ d) {Q : Option zV → zM → Prop} {mm : zM} {o : (Int32 × zM)} (h : fX4_readUnit mm = some o) (hQ : ∀ r, o = r → Q (some (zI r.1)) r.2) : V E RX4 cX4_readUnit 5 (some .boolean) d Q 0 [some (zK 4 0), none, none, none, none] [] mm := by
  unfold fX4_readUnit at h
  refine V_aload_n 1 rfl 0 dX4_readUnit_0 rfl rfl ?_
  refine V_ldcS 3 rfl (tx := "trait") (i := 0) dX4_readUnit_1 (by decide) (by decide) ?_
  obtain ⟨x1, h1, h⟩ := zbd h
  refine V_cV 6 rfl 6 [zK 61 0] [] dX4_readUnit_3 cv_X4_62 (ctX4_isWord (Nat.le_refl 6) h1) (Nat.le_trans (by decide) hd) rfl rfl (Nat.le_of_ble_eq_true rfl) zoki rfl ?_
  refine V_istore_n 7 rfl 1 (L' := [some (zK 4 0), some (zI x1), none, none, none]) dX4_readUnit_6 rfl (by decide) rfl ?_
  refine V_iload_n 8 rfl 1 dX4_readUnit_7 rfl rfl ?_
  refine V_if_ne 11 26 rfl dX4_readUnit_8 (by decide) (fun c => ?_) (fun c => ?_)
  · have h := zneg c h
    exact wX4_readUnit_J26 hd h hQ
  · have h := zpos c h
    refine V_aload_n 12 rfl 0 dX4_readUnit_11 rfl rfl ?_
    refine V_ldcS 14 rfl (tx := "type") (i := 1) dX4_readUnit_12 (by decide) (by decide) ?_
    obtain ⟨x20, h1, h⟩ := zbd h
    refine V_cV 17 rfl 6 [zK 61 1] [] dX4_readUnit_14 cv_X4_62 (ctX4_isWord (Nat.le_refl 6) h1) (Nat.le_trans (by decide) hd) rfl rfl (Nat.le_of_ble_eq_true rfl) zoki rfl ?_
    refine V_if_ne 20 26 rfl dX4_readUnit_17 (by decide) (fun c => ?_) (fun c => ?_)
    · have h := zneg c h
      exact wX4_readUnit_J26 hd h hQ
    · have h := zpos c h
      refine V_aload_n 21 rfl 0 dX4_readUnit_20 rfl rfl ?_
      refine V_iconst 22 rfl (v := 1) dX4_readUnit_21 (by decide) ?_
      obtain ⟨x21, h1, h⟩ := zbd h
      refine V_cV 25 rfl 0 [zI 1] [] dX4_readUnit_22 cv_X4_56 (ctX4_refuse (Nat.le_refl 0) h1) (Nat.le_trans (by decide) hd) rfl rfl (Nat.le_of_ble_eq_true rfl) zoki rfl ?_
      obtain ⟨hi, h⟩ := zobd h
      exact V_zret dX4_readUnit_25 rfl (zbo_n hi) (hQ ((x21.1, x21.2)) (zinj h))
theorem ctX4_readUnit {E : zE} {d : Nat} (hd : 10 ≤ d) {mm : zM} {o : (Int32 × zM)} (h : fX4_readUnit mm = some o) : zOC E yX4_readUnit cX4_readUnit 5 (some .boolean) d [zK 4 0] mm (some (zI o.1)) o.2 :=
  zCT_of (by decide) (Nat.le_of_ble_eq_true rfl) (zk_k zk_0) rfl (wX4_readUnit hd h (fun r e => ⟨by rw [e], by rw [e]⟩))
def fX4_readBreak (mm : zM) : Option (Int32 × zM) :=
  if (gi mm 4 0 4) = 59 then ((fX4_pass mm).bind (fun x1 => some ((1, x1)))) else ((fX4_refuse 1 mm).bind (fun x2 => zob (zbo x2.1) (some ((x2.1, x2.2)))))
theorem wX4_readBreak {E : zE} {d : Nat} (hd : 1 ≤ d) {Q : Option zV → zM → Prop} {mm : zM} {o : (Int32 × zM)} (h : fX4_readBreak mm = some o) (hQ : ∀ r, o = r → Q (some (zI r.1)) r.2) : V E RX4 cX4_readBreak 1 (some .boolean) d Q 0 [some (zK 4 0)] [] mm := by
  unfold fX4_readBreak at h
  refine V_aload_n 1 rfl 0 dX4_readBreak_0 rfl rfl ?_
  refine V_geti 4 rfl dX4_readBreak_1 fl_X4_53 rfl ?_
  refine V_bipush 6 rfl (v := 59) dX4_readBreak_4 (by decide) ?_
  refine V_icmp_eq 9 15 rfl dX4_readBreak_6 (by decide) (fun c => ?_) (fun c => ?_)
  · have h := zpos c h
    refine V_aload_n 16 rfl 0 dX4_readBreak_15 rfl rfl ?_
    obtain ⟨x1, h1, h⟩ := zbd h
    refine V_cV 19 rfl 0 [] [] dX4_readBreak_16 cv_X4_40 (ctX4_pass (Nat.le_refl 0) h1) (Nat.le_trans (by decide) hd) rfl rfl (Nat.le_of_ble_eq_true rfl) zokn rfl ?_
    refine V_iconst 20 rfl (v := 1) dX4_readBreak_19 (by decide) ?_
    exact V_zret dX4_readBreak_20 rfl rfl (hQ ((1, x1)) (zinj h))
  · have h := zneg c h
    refine V_aload_n 10 rfl 0 dX4_readBreak_9 rfl rfl ?_
    refine V_iconst 11 rfl (v := 1) dX4_readBreak_10 (by decide) ?_
    obtain ⟨x2, h1, h⟩ := zbd h
    refine V_cV 14 rfl 0 [zI 1] [] dX4_readBreak_11 cv_X4_56 (ctX4_refuse (Nat.le_refl 0) h1) (Nat.le_trans (by decide) hd) rfl rfl (Nat.le_of_ble_eq_true rfl) zoki rfl ?_
    obtain ⟨hi, h⟩ := zobd h
    exact V_zret dX4_readBreak_14 rfl (zbo_n hi) (hQ ((x2.1, x2.2)) (zinj h))
theorem ctX4_readBreak {E : zE} {d : Nat} (hd : 1 ≤ d) {mm : zM} {o : (Int32 × zM)} (h : fX4_readBreak mm = some o) : zOC E yX4_readBreak cX4_readBreak 1 (some .boolean) d [zK 4 0] mm (some (zI o.1)) o.2 :=
  zCT_of (by decide) (Nat.le_of_ble_eq_true rfl) (zk_k zk_0) rfl (wX4_readBreak hd h (fun r e => ⟨by rw [e], by rw [e]⟩))
def fX4_read_36_L66 (s : (Int32 × Int32 × zM)) : Option ((Int32 × Int32 × zM) ⊕ (zM ⊕ Empty)) :=
  if s.1 = 0 then (some (.inr (.inl s.2.2))) else (if 12 < s.2.1 then (some (.inr (.inl s.2.2))) else ((fX4_readUnit s.2.2).bind (fun x3 => if x3.1 = 0 then (some (.inl (0, (s.2.1 + 1), x3.2))) else (if (gi x3.2 4 0 1) ≤ (gi x3.2 4 0 2) then (some (.inl (0, (s.2.1 + 1), x3.2))) else ((fX4_readBreak x3.2).bind (fun x4 => if x4.1 = 0 then (some (.inl (0, (s.2.1 + 1), x4.2))) else (some (.inl (1, (s.2.1 + 1), x4.2)))))))))
def fX4_read_36_J61 (s0 : Int32) (mm : zM) : Option (Int32 × zM) :=
  (zloop (fX4_read_36_L66) zF (s0, 0, mm)).bind (fun o7 => zcase o7 (fun y5 => some (((gi y5 4 0 5), y5))) (fun r6 => r6.elim))
def fX4_read_36 (v2 : Int32) (v3 : Nat) (mm : zM) : Option (Int32 × zM) :=
  zob (gr ((wr mm 4 0 (some 0))) 4 0 == some 0) ((gr ((wr ((wi ((wr mm 4 0 (some 0))) 4 0 1 ((if 400 < v2 then 400 else v2)))) 4 7 (some v3))) 4 7).bind (fun j1 => (fX4_pass ((wi ((wi ((wi ((wr ((wi ((wr mm 4 0 (some 0))) 4 0 1 ((if 400 < v2 then 400 else v2)))) 4 7 (some v3))) 8 j1 1 0)) 4 0 5 0)) 4 0 3 0))).bind (fun x2 => if (gi x2 4 0 1) ≤ (gi x2 4 0 2) then (fX4_read_36_J61 0 x2) else (fX4_read_36_J61 1 x2))))
theorem wX4_read_36_L66 {E : zE} {d : Nat} (hd : 11 ≤ d) {Q : Option zV → zM → Prop} {n : Nat} {s : (Int32 × Int32 × zM)} {o : zM ⊕ Empty} (h : zloop (fX4_read_36_L66) n s = some o) (he : ∀ y : zM, o = .inl y → V E RX4 cX4_read 6 (some .int) d Q 116 [some (zK 4 0), none, none, none, none, none] [] y) : V E RX4 cX4_read 6 (some .int) d Q 66 [some (zK 4 0), none, none, none, some (zI s.1), some (zI s.2.1)] [] s.2.2 := by
  induction n generalizing s with
  | zero => exact (zloop_0 h).elim
  | succ n ih =>
    obtain ⟨o1, h1, hc1, he1⟩ := zloop_s h
    have kc : ∀ s' : (Int32 × Int32 × zM), o1 = .inl s' → V E RX4 cX4_read 6 (some .int) d Q 66 [some (zK 4 0), none, none, none, some (zI s'.1), some (zI s'.2.1)] [] s'.2.2 := fun s' e => ih (hc1 s' e)
    have ke : ∀ y : zM, o1 = .inr (.inl y) → V E RX4 cX4_read 6 (some .int) d Q 116 [some (zK 4 0), none, none, none, none, none] [] y := fun y e => he y (he1 _ e)
    clear h hc1 he1 ih
    have h := h1
    clear h1
    unfold fX4_read_36_L66 at h
    refine V_iload 68 rfl dX4_read_66 rfl ?_
    refine V_if_eq 71 116 rfl dX4_read_68 (by decide) (fun c => ?_) (fun c => ?_)
    · have h := zpos c h
      exact V_w (zsub_s (zsub_s (zsub_s (zsub_s (zsub_n (zsub_n zsub_0)))))) (ke s.2.2 (zinj h))
    · have h := zneg c h
      refine V_iload 73 rfl dX4_read_71 rfl ?_
      refine V_bipush 75 rfl (v := 12) dX4_read_73 (by decide) ?_
      refine V_icmp_gt 78 116 rfl dX4_read_75 (by decide) (fun c => ?_) (fun c => ?_)
      · have h := zpos c h
        exact V_w (zsub_s (zsub_s (zsub_s (zsub_s (zsub_n (zsub_n zsub_0)))))) (ke s.2.2 (zinj h))
      · have h := zneg c h
        refine V_aload_n 79 rfl 0 dX4_read_78 rfl rfl ?_
        obtain ⟨x3, h1, h⟩ := zbd h
        refine V_cV 82 rfl 10 [] [] dX4_read_79 cv_X4_46 (ctX4_readUnit (Nat.le_refl 10) h1) (Nat.le_trans (by decide) hd) rfl rfl (Nat.le_of_ble_eq_true rfl) zoki rfl ?_
        refine V_if_eq 85 107 rfl dX4_read_82 (by decide) (fun c => ?_) (fun c => ?_)
        · have h := zpos c h
          refine V_iconst 108 rfl (v := 0) dX4_read_107 (by decide) ?_
          refine V_istore 110 rfl (L' := [some (zK 4 0), none, none, none, some (zI 0), some (zI s.2.1)]) dX4_read_108 (by decide) rfl ?_
          refine V_iinc 113 rfl (s.2.1 + 1) (L' := [some (zK 4 0), none, none, none, some (zI 0), some (zI (s.2.1 + 1))]) dX4_read_110 rfl rfl (by decide) rfl ?_
          refine V_goto 66 dX4_read_113 (by decide) ?_
          exact kc (0, (s.2.1 + 1), x3.2) (zinj h)
        · have h := zneg c h
          refine V_aload_n 86 rfl 0 dX4_read_85 rfl rfl ?_
          refine V_geti 89 rfl dX4_read_86 fl_X4_43 rfl ?_
          refine V_aload_n 90 rfl 0 dX4_read_89 rfl rfl ?_
          refine V_geti 93 rfl dX4_read_90 fl_X4_21 rfl ?_
          refine V_icmp_ge 96 107 rfl dX4_read_93 (by decide) (fun c => ?_) (fun c => ?_)
          · have h := zpos c h
            refine V_iconst 108 rfl (v := 0) dX4_read_107 (by decide) ?_
            refine V_istore 110 rfl (L' := [some (zK 4 0), none, none, none, some (zI 0), some (zI s.2.1)]) dX4_read_108 (by decide) rfl ?_
            refine V_iinc 113 rfl (s.2.1 + 1) (L' := [some (zK 4 0), none, none, none, some (zI 0), some (zI (s.2.1 + 1))]) dX4_read_110 rfl rfl (by decide) rfl ?_
            refine V_goto 66 dX4_read_113 (by decide) ?_
            exact kc (0, (s.2.1 + 1), x3.2) (zinj h)
          · have h := zneg c h
            refine V_aload_n 97 rfl 0 dX4_read_96 rfl rfl ?_
            obtain ⟨x4, h1, h⟩ := zbd h
            refine V_cV 100 rfl 1 [] [] dX4_read_97 cv_X4_50 (ctX4_readBreak (Nat.le_refl 1) h1) (Nat.le_trans (by decide) hd) rfl rfl (Nat.le_of_ble_eq_true rfl) zoki rfl ?_
            refine V_if_eq 103 107 rfl dX4_read_100 (by decide) (fun c => ?_) (fun c => ?_)
            · have h := zpos c h
              refine V_iconst 108 rfl (v := 0) dX4_read_107 (by decide) ?_
              refine V_istore 110 rfl (L' := [some (zK 4 0), none, none, none, some (zI 0), some (zI s.2.1)]) dX4_read_108 (by decide) rfl ?_
              refine V_iinc 113 rfl (s.2.1 + 1) (L' := [some (zK 4 0), none, none, none, some (zI 0), some (zI (s.2.1 + 1))]) dX4_read_110 rfl rfl (by decide) rfl ?_
              refine V_goto 66 dX4_read_113 (by decide) ?_
              exact kc (0, (s.2.1 + 1), x4.2) (zinj h)
            · have h := zneg c h
              refine V_iconst 104 rfl (v := 1) dX4_read_103 (by decide) ?_
              refine V_goto 108 dX4_read_104 (by decide) ?_
              refine V_istore 110 rfl (L' := [some (zK 4 0), none, none, none, some (zI 1), some (zI s.2.1)]) dX4_read_108 (by decide) rfl ?_
              refine V_iinc 113 rfl (s.2.1 + 1) (L' := [some (zK 4 0), none, none, none, some (zI 1), some (zI (s.2.1 + 1))]) dX4_read_110 rfl rfl (by decide) rfl ?_
              refine V_goto 66 dX4_read_113 (by decide) ?_
              exact kc (1, (s.2.1 + 1), x4.2) (zinj h)
theorem wX4_read_36_J61 {E : zE} {d : Nat} (hd : 11 ≤ d) {Q : Option zV → zM → Prop} {s0 : Int32} {mm : zM} {o : (Int32 × zM)} (h : fX4_read_36_J61 s0 mm = some o) (hQ : ∀ r, o = r → Q (some (zI r.1)) r.2) : V E RX4 cX4_read 6 (some .int) d Q 61 [some (zK 4 0), none, none, none, none, none] [zI s0] mm := by
  unfold fX4_read_36_J61 at h
  refine V_istore 63 rfl (L' := [some (zK 4 0), none, none, none, some (zI s0), none]) dX4_read_61 (by decide) rfl ?_
  refine V_iconst 64 rfl (v := 0) dX4_read_63 (by decide) ?_
  refine V_istore 66 rfl (L' := [some (zK 4 0), none, none, none, some (zI s0), some (zI 0)]) dX4_read_64 (by decide) rfl ?_
  obtain ⟨o7, h1, h⟩ := zbd h
  refine wX4_read_36_L66 hd h1 (fun y5 e => ?_)
  have h := zcl_ e h
  refine V_aload_n 117 rfl 0 dX4_read_116 rfl rfl ?_
  refine V_geti 120 rfl dX4_read_117 fl_X4_34 rfl ?_
  exact V_iret dX4_read_120 rfl (hQ (((gi y5 4 0 5), y5)) (zinj h))
theorem wX4_read_36 {E : zE} {d : Nat} (hd : 11 ≤ d) {Q : Option zV → zM → Prop} {v2 : Int32} {v3 : Nat} {mm : zM} {o : (Int32 × zM)} (h : fX4_read_36 v2 v3 mm = some o) (hQ : ∀ r, o = r → Q (some (zI r.1)) r.2) : V E RX4 cX4_read 6 (some .int) d Q 0 [some (zK 4 0), some (zK 36 0), some (zI v2), some (zK 8 v3), none, none] [] mm := by
  unfold fX4_read_36 at h
  refine V_aload_n 1 rfl 0 dX4_read_0 rfl rfl ?_
  refine V_aload_n 2 rfl 1 dX4_read_1 rfl rfl ?_
  refine V_putm 5 rfl dX4_read_2 fw_X4_9 rfl rfl rfl (fun _ => rfl) (fun _ => rfl) ?_
  refine V_aload_n 6 rfl 0 dX4_read_5 rfl rfl ?_
  refine V_iload_n 7 rfl 2 dX4_read_6 rfl rfl ?_
  refine V_aload_n 8 rfl 0 dX4_read_7 rfl rfl ?_
  obtain ⟨hi, h⟩ := zobd h
  refine V_getm 11 rfl 36 dX4_read_8 fl_X4_9 rfl rfl (eq_of_beq hi) ?_
  refine V_alen 12 rfl 400 dX4_read_11 rfl (by decide) (by decide) ?_
  refine V_mmin 15 rfl dX4_read_12 tb_480 (Nat.le_trans (by decide) hd) (Nat.le_of_ble_eq_true rfl) ?_
  refine V_puti 18 rfl dX4_read_15 fw_X4_21 rfl rfl rfl ?_
  refine V_aload_n 19 rfl 0 dX4_read_18 rfl rfl ?_
  refine V_aload_n 20 rfl 3 dX4_read_19 rfl rfl ?_
  refine V_putm 23 rfl dX4_read_20 fw_X4_25 rfl rfl rfl (fun _ => rfl) (fun _ => rfl) ?_
  refine V_aload_n 24 rfl 0 dX4_read_23 rfl rfl ?_
  obtain ⟨j1, hj, h⟩ := zbd h
  refine V_getm 27 rfl 8 dX4_read_24 fl_X4_25 rfl rfl hj ?_
  refine V_iconst 28 rfl (v := 0) dX4_read_27 (by decide) ?_
  refine V_puti 31 rfl dX4_read_28 fw_X4_29 rfl rfl rfl ?_
  refine V_aload_n 32 rfl 0 dX4_read_31 rfl rfl ?_
  refine V_iconst 33 rfl (v := 0) dX4_read_32 (by decide) ?_
  refine V_puti 36 rfl dX4_read_33 fw_X4_34 rfl rfl rfl ?_
  refine V_aload_n 37 rfl 0 dX4_read_36 rfl rfl ?_
  refine V_iconst 38 rfl (v := 0) dX4_read_37 (by decide) ?_
  refine V_puti 41 rfl dX4_read_38 fw_X4_37 rfl rfl rfl ?_
  refine V_aload_n 42 rfl 0 dX4_read_41 rfl rfl ?_
  obtain ⟨x2, h1, h⟩ := zbd h
  refine V_cV 45 rfl 0 [] [] dX4_read_42 cv_X4_40 (ctX4_pass (Nat.le_refl 0) h1) (Nat.le_trans (by decide) hd) rfl rfl (Nat.le_of_ble_eq_true rfl) zokn rfl ?_
  refine V_aload_n 46 rfl 0 dX4_read_45 rfl rfl ?_
  refine V_geti 49 rfl dX4_read_46 fl_X4_43 rfl ?_
  refine V_aload_n 50 rfl 0 dX4_read_49 rfl rfl ?_
  refine V_geti 53 rfl dX4_read_50 fl_X4_21 rfl ?_
  refine V_icmp_ge 56 60 rfl dX4_read_53 (by decide) (fun c => ?_) (fun c => ?_)
  · have h := zpos c h
    refine V_iconst 61 rfl (v := 0) dX4_read_60 (by decide) ?_
    exact V_w (zsub_s (zsub_n (zsub_n (zsub_n (zsub_s (zsub_s zsub_0)))))) (wX4_read_36_J61 hd h hQ)
  · have h := zneg c h
    refine V_iconst 57 rfl (v := 1) dX4_read_56 (by decide) ?_
    refine V_goto 61 dX4_read_57 (by decide) ?_
    exact V_w (zsub_s (zsub_n (zsub_n (zsub_n (zsub_s (zsub_s zsub_0)))))) (wX4_read_36_J61 hd h hQ)
theorem ctX4_read_36 {E : zE} {d : Nat} (hd : 11 ≤ d) {v2 : Int32} {v3 : Nat} {mm : zM} {o : (Int32 × zM)} (h : fX4_read_36 v2 v3 mm = some o) : zOC E yX4_read cX4_read 6 (some .int) d [zK 4 0, zK 36 0, zI v2, zK 8 v3] mm (some (zI o.1)) o.2 :=
  zCT_of (by decide) (Nat.le_of_ble_eq_true rfl) (zk_k (zk_k (zk_i (zk_k zk_0)))) rfl (wX4_read_36 hd h (fun r e => ⟨by rw [e], by rw [e]⟩))
def fX1_forgetAll (mm : zM) : Option zM :=
  some ((wi mm 1 0 3 0))
theorem wX1_forgetAll {E : zE} {d : Nat} (hd : 0 ≤ d) {Q : Option zV → zM → Prop} {mm : zM} {o : zM} (h : fX1_forgetAll mm = some o) (hQ : ∀ r, o = r → Q none r) : V E RX1 cX1_forgetAll 1 none d Q 0 [some (zK 1 0)] [] mm := by
  unfold fX1_forgetAll at h
  refine V_aload_n 1 rfl 0 dX1_forgetAll_0 rfl rfl ?_
  refine V_iconst 2 rfl (v := 0) dX1_forgetAll_1 (by decide) ?_
  refine V_puti 5 rfl dX1_forgetAll_2 fw_X1_22 rfl rfl rfl ?_
  exact V_vret dX1_forgetAll_5 rfl (hQ ((wi mm 1 0 3 0)) (zinj h))
theorem ctX1_forgetAll {E : zE} {d : Nat} (hd : 0 ≤ d) {mm : zM} {o : zM} (h : fX1_forgetAll mm = some o) : zOC E yX1_forgetAll cX1_forgetAll 1 none d [zK 1 0] mm none o :=
  zCT_of (by decide) (Nat.le_of_ble_eq_true rfl) (zk_k zk_0) rfl (wX1_forgetAll hd h (fun r e => ⟨rfl, by rw [e]⟩))
def fX9_startAnew (mm : zM) : Option zM :=
  (fX1_forgetAll mm).bind (fun x1 => some ((wi x1 9 0 12 1)))
theorem wX9_startAnew {E : zE} {d : Nat} (hd : 1 ≤ d) {Q : Option zV → zM → Prop} {mm : zM} {o : zM} (h : fX9_startAnew mm = some o) (hQ : ∀ r, o = r → Q none r) : V E RX9 cX9_startAnew 1 none d Q 0 [some (zK 9 0)] [] mm := by
  unfold fX9_startAnew at h
  refine V_aload_n 1 rfl 0 dX9_startAnew_0 rfl rfl ?_
  refine V_getr 4 rfl 1 0 dX9_startAnew_1 fl_X9_37 rfl rfl rfl ?_
  obtain ⟨x1, h1, h⟩ := zbd h
  refine V_cV 7 rfl 0 [] [] dX9_startAnew_4 cv_X9_87 (ctX1_forgetAll (Nat.le_refl 0) h1) (Nat.le_trans (by decide) hd) rfl rfl (Nat.le_of_ble_eq_true rfl) zokn rfl ?_
  refine V_aload_n 8 rfl 0 dX9_startAnew_7 rfl rfl ?_
  refine V_iconst 9 rfl (v := 1) dX9_startAnew_8 (by decide) ?_
  refine V_puti 12 rfl dX9_startAnew_9 fw_X9_90 rfl rfl rfl ?_
  exact V_vret dX9_startAnew_12 rfl (hQ ((wi x1 9 0 12 1)) (zinj h))
theorem ctX9_startAnew {E : zE} {d : Nat} (hd : 1 ≤ d) {mm : zM} {o : zM} (h : fX9_startAnew mm = some o) : zOC E yX9_startAnew cX9_startAnew 1 none d [zK 9 0] mm none o :=
  zCT_of (by decide) (Nat.le_of_ble_eq_true rfl) (zk_k zk_0) rfl (wX9_startAnew hd h (fun r e => ⟨rfl, by rw [e]⟩))
def fX9_tell (mm : zM) : Option (Int32 × zM) :=
  (gr mm 9 3).bind (fun j1 => (fX4_read_36 ((gi mm 9 0 1)) j1 mm).bind (fun x2 => if x2.1 = 0 then ((gr ((wi x2.2 9 0 1 0)) 9 3).bind (fun j3 => (gr ((wi x2.2 9 0 1 0)) 9 2).bind (fun j4 => (fX9_startAnew ((wr ((wr ((wi x2.2 9 0 1 0)) 9 3 (some j4))) 9 2 (some j3)))).bind (fun x5 => (gr x5 9 2).bind (fun j6 => some (((gi x5 8 j6 1), x5))))))) else (some (((((-2)) - x2.1), (wi x2.2 9 0 1 0))))))
theorem wX9_tell {E : zE} {d : Nat} (hd : 12 ≤ d) {Q : Option zV → zM → Prop} {mm : zM} {o : (Int32 × zM)} (h : fX9_tell mm = some o) (hQ : ∀ r, o = r → Q (some (zI r.1)) r.2) : V E RX9 cX9_tell 3 (some .int) d Q 0 [some (zK 9 0), none, none] [] mm := by
  unfold fX9_tell at h
  refine V_aload_n 1 rfl 0 dX9_tell_0 rfl rfl ?_
  refine V_getr 4 rfl 4 0 dX9_tell_1 fl_X9_30 rfl rfl rfl ?_
  refine V_aload_n 5 rfl 0 dX9_tell_4 rfl rfl ?_
  refine V_getr 8 rfl 36 0 dX9_tell_5 fl_X9_9 rfl rfl rfl ?_
  refine V_aload_n 9 rfl 0 dX9_tell_8 rfl rfl ?_
  refine V_geti 12 rfl dX9_tell_9 fl_X9_69 rfl ?_
  refine V_aload_n 13 rfl 0 dX9_tell_12 rfl rfl ?_
  obtain ⟨j1, hj, h⟩ := zbd h
  refine V_getm 16 rfl 8 dX9_tell_13 fl_X9_20 rfl rfl hj ?_
  obtain ⟨x2, h1, h⟩ := zbd h
  refine V_cV 19 rfl 11 [zK 36 0, zI (gi mm 9 0 1), zK 8 j1] [] dX9_tell_16 cv_X9_77 (ctX4_read_36 (Nat.le_refl 11) h1) (Nat.le_trans (by decide) hd) rfl rfl (Nat.le_of_ble_eq_true rfl) zoki rfl ?_
  refine V_istore_n 20 rfl 1 (L' := [some (zK 9 0), some (zI x2.1), none]) dX9_tell_19 rfl (by decide) rfl ?_
  refine V_aload_n 21 rfl 0 dX9_tell_20 rfl rfl ?_
  refine V_iconst 22 rfl (v := 0) dX9_tell_21 (by decide) ?_
  refine V_puti 25 rfl dX9_tell_22 fw_X9_69 rfl rfl rfl ?_
  refine V_iload_n 26 rfl 1 dX9_tell_25 rfl rfl ?_
  refine V_if_eq 29 34 rfl dX9_tell_26 (by decide) (fun c => ?_) (fun c => ?_)
  · have h := zpos c h
    refine V_aload_n 35 rfl 0 dX9_tell_34 rfl rfl ?_
    obtain ⟨j3, hj, h⟩ := zbd h
    refine V_getm 38 rfl 8 dX9_tell_35 fl_X9_20 rfl rfl hj ?_
    refine V_astore_n 39 rfl 2 (L' := [some (zK 9 0), some (zI x2.1), some (zK 8 j3)]) dX9_tell_38 rfl (by decide) rfl ?_
    refine V_aload_n 40 rfl 0 dX9_tell_39 rfl rfl ?_
    refine V_aload_n 41 rfl 0 dX9_tell_40 rfl rfl ?_
    obtain ⟨j4, hj, h⟩ := zbd h
    refine V_getm 44 rfl 8 dX9_tell_41 fl_X9_16 rfl rfl hj ?_
    refine V_putm 47 rfl dX9_tell_44 fw_X9_20 rfl rfl rfl (fun _ => rfl) (fun _ => rfl) ?_
    refine V_aload_n 48 rfl 0 dX9_tell_47 rfl rfl ?_
    refine V_aload_n 49 rfl 2 dX9_tell_48 rfl rfl ?_
    refine V_putm 52 rfl dX9_tell_49 fw_X9_16 rfl rfl rfl (fun _ => rfl) (fun _ => rfl) ?_
    refine V_aload_n 53 rfl 0 dX9_tell_52 rfl rfl ?_
    obtain ⟨x5, h1, h⟩ := zbd h
    refine V_cV 56 rfl 1 [] [] dX9_tell_53 cv_X9_81 (ctX9_startAnew (Nat.le_refl 1) h1) (Nat.le_trans (by decide) hd) rfl rfl (Nat.le_of_ble_eq_true rfl) zokn rfl ?_
    refine V_aload_n 57 rfl 0 dX9_tell_56 rfl rfl ?_
    obtain ⟨j6, hj, h⟩ := zbd h
    refine V_getm 60 rfl 8 dX9_tell_57 fl_X9_16 rfl rfl hj ?_
    refine V_geti 63 rfl dX9_tell_60 fl_X9_84 rfl ?_
    exact V_iret dX9_tell_63 rfl (hQ (((gi x5 8 j6 1), x5)) (zinj h))
  · have h := zneg c h
    refine V_bipush 31 rfl (v := (-2)) dX9_tell_29 (by decide) ?_
    refine V_iload_n 32 rfl 1 dX9_tell_31 rfl rfl ?_
    refine V_isub 33 rfl dX9_tell_32 ?_
    exact V_iret dX9_tell_33 rfl (hQ (((((-2)) - x2.1), (wi x2.2 9 0 1 0))) (zinj h))
theorem ctX9_tell {E : zE} {d : Nat} (hd : 12 ≤ d) {mm : zM} {o : (Int32 × zM)} (h : fX9_tell mm = some o) : zOC E yX9_tell cX9_tell 3 (some .int) d [zK 9 0] mm (some (zI o.1)) o.2 :=
  zCT_of (by decide) (Nat.le_of_ble_eq_true rfl) (zk_k zk_0) rfl (wX9_tell hd h (fun r e => ⟨by rw [e], by rw [e]⟩))
def fX5_copyFrom (v0 : Nat) (v1 : Nat) (mm : zM) : Option zM :=
  zob (zcin 0 0 4 4 4) (some ((wi ((zcp mm 30 v1 (zn 0) 30 v0 (zn 0) (zn 4))) 5 v0 1 ((gi ((zcp mm 30 v1 (zn 0) 30 v0 (zn 0) (zn 4))) 5 v1 1)))))
theorem wX5_copyFrom {E : zE} {d : Nat} (hd : 1 ≤ d) {Q : Option zV → zM → Prop} {v0 : Nat} {v1 : Nat} {mm : zM} {o : zM} (h : fX5_copyFrom v0 v1 mm = some o) (hQ : ∀ r, o = r → Q none r) : V E RX5 cX5_copyFrom 2 none d Q 0 [some (zK 5 v0), some (zK 5 v1)] [] mm := by
  unfold fX5_copyFrom at h
  refine V_aload_n 1 rfl 1 dX5_copyFrom_0 rfl rfl ?_
  refine V_getr 4 rfl 30 v1 dX5_copyFrom_1 fl_X5_9 rfl rfl rfl ?_
  refine V_iconst 5 rfl (v := 0) dX5_copyFrom_4 (by decide) ?_
  refine V_aload_n 6 rfl 0 dX5_copyFrom_5 rfl rfl ?_
  refine V_getr 9 rfl 30 v0 dX5_copyFrom_6 fl_X5_9 rfl rfl rfl ?_
  refine V_iconst 10 rfl (v := 0) dX5_copyFrom_9 (by decide) ?_
  refine V_iconst 11 rfl (v := 4) dX5_copyFrom_10 (by decide) ?_
  obtain ⟨hi, h⟩ := zobd h
  refine V_copy 14 rfl dX5_copyFrom_11 ca_X5_19 rfl rfl hi (Nat.le_trans (by decide) hd) (Nat.le_of_ble_eq_true rfl) ?_
  refine V_aload_n 15 rfl 0 dX5_copyFrom_14 rfl rfl ?_
  refine V_aload_n 16 rfl 1 dX5_copyFrom_15 rfl rfl ?_
  refine V_geti 19 rfl dX5_copyFrom_16 fl_X5_15 rfl ?_
  refine V_puti 22 rfl dX5_copyFrom_19 fw_X5_15 rfl rfl rfl ?_
  exact V_vret dX5_copyFrom_22 rfl (hQ ((wi ((zcp mm 30 v1 (zn 0) 30 v0 (zn 0) (zn 4))) 5 v0 1 ((gi ((zcp mm 30 v1 (zn 0) 30 v0 (zn 0) (zn 4))) 5 v1 1)))) (zinj h))
theorem ctX5_copyFrom {E : zE} {d : Nat} (hd : 1 ≤ d) {v0 : Nat} {v1 : Nat} {mm : zM} {o : zM} (h : fX5_copyFrom v0 v1 mm = some o) : zOC E yX5_copyFrom cX5_copyFrom 2 none d [zK 5 v0, zK 5 v1] mm none o :=
  zCT_of (by decide) (Nat.le_of_ble_eq_true rfl) (zk_k (zk_k zk_0)) rfl (wX5_copyFrom hd h (fun r e => ⟨rfl, by rw [e]⟩))
def fX7_copyFrom (v0 : Nat) (v1 : Nat) (mm : zM) : Option zM :=
  zob (zbo ((gi mm 7 v1 0))) ((fX5_copyFrom ((2 * v0)) ((2 * v1)) ((wi ((wi ((wi mm 7 v0 0 ((gi mm 7 v1 0)))) 7 v0 1 ((gi ((wi mm 7 v0 0 ((gi mm 7 v1 0)))) 7 v1 1)))) 7 v0 2 ((gi ((wi ((wi mm 7 v0 0 ((gi mm 7 v1 0)))) 7 v0 1 ((gi ((wi mm 7 v0 0 ((gi mm 7 v1 0)))) 7 v1 1)))) 7 v1 2))))).bind (fun x1 => (fX5_copyFrom ((2 * v0 + 1)) ((2 * v1 + 1)) x1).bind (fun x2 => zob (zcin 0 0 4 4 4) (zob (zcin 0 0 26 26 26) (zob (zcin 0 0 104 104 104) (zob (zcin 0 0 104 104 104) (some ((zcp ((zcp ((zcp ((zcp x2 31 v1 (zn 0) 31 v0 (zn 0) (zn 4))) 32 v1 (zn 0) 32 v0 (zn 0) (zn 26))) 33 v1 (zn 0) 33 v0 (zn 0) (zn 104))) 34 v1 (zn 0) 34 v0 (zn 0) (zn 104))))))))))
theorem wX7_copyFrom {E : zE} {d : Nat} (hd : 2 ≤ d) {Q : Option zV → zM → Prop} {v0 : Nat} {v1 : Nat} {mm : zM} {o : zM} (h : fX7_copyFrom v0 v1 mm = some o) (hQ : ∀ r, o = r → Q none r) : V E RX7 cX7_copyFrom 2 none d Q 0 [some (zK 7 v0), some (zK 7 v1)] [] mm := by
  unfold fX7_copyFrom at h
  refine V_aload_n 1 rfl 0 dX7_copyFrom_0 rfl rfl ?_
  refine V_aload_n 2 rfl 1 dX7_copyFrom_1 rfl rfl ?_
  refine V_geti 5 rfl dX7_copyFrom_2 fl_X7_34 rfl ?_
  obtain ⟨hi, h⟩ := zobd h
  refine V_puti 8 rfl dX7_copyFrom_5 fw_X7_34 rfl (zbo_n hi) (zbo_f hi) ?_
  refine V_aload_n 9 rfl 0 dX7_copyFrom_8 rfl rfl ?_
  refine V_aload_n 10 rfl 1 dX7_copyFrom_9 rfl rfl ?_
  refine V_geti 13 rfl dX7_copyFrom_10 fl_X7_38 rfl ?_
  refine V_puti 16 rfl dX7_copyFrom_13 fw_X7_38 rfl rfl rfl ?_
  refine V_aload_n 17 rfl 0 dX7_copyFrom_16 rfl rfl ?_
  refine V_aload_n 18 rfl 1 dX7_copyFrom_17 rfl rfl ?_
  refine V_geti 21 rfl dX7_copyFrom_18 fl_X7_42 rfl ?_
  refine V_puti 24 rfl dX7_copyFrom_21 fw_X7_42 rfl rfl rfl ?_
  refine V_aload_n 25 rfl 0 dX7_copyFrom_24 rfl rfl ?_
  refine V_getr 28 rfl 5 (2 * v0) dX7_copyFrom_25 fl_X7_12 rfl rfl rfl ?_
  refine V_aload_n 29 rfl 1 dX7_copyFrom_28 rfl rfl ?_
  refine V_getr 32 rfl 5 (2 * v1) dX7_copyFrom_29 fl_X7_12 rfl rfl rfl ?_
  obtain ⟨x1, h1, h⟩ := zbd h
  refine V_cV 35 rfl 1 [zK 5 (2 * v1)] [] dX7_copyFrom_32 cv_X7_65 (ctX5_copyFrom (Nat.le_refl 1) h1) (Nat.le_trans (by decide) hd) rfl rfl (Nat.le_of_ble_eq_true rfl) zokn rfl ?_
  refine V_aload_n 36 rfl 0 dX7_copyFrom_35 rfl rfl ?_
  refine V_getr 39 rfl 5 (2 * v0 + 1) dX7_copyFrom_36 fl_X7_18 rfl rfl rfl ?_
  refine V_aload_n 40 rfl 1 dX7_copyFrom_39 rfl rfl ?_
  refine V_getr 43 rfl 5 (2 * v1 + 1) dX7_copyFrom_40 fl_X7_18 rfl rfl rfl ?_
  obtain ⟨x2, h1, h⟩ := zbd h
  refine V_cV 46 rfl 1 [zK 5 (2 * v1 + 1)] [] dX7_copyFrom_43 cv_X7_65 (ctX5_copyFrom (Nat.le_refl 1) h1) (Nat.le_trans (by decide) hd) rfl rfl (Nat.le_of_ble_eq_true rfl) zokn rfl ?_
  refine V_aload_n 47 rfl 1 dX7_copyFrom_46 rfl rfl ?_
  refine V_getr 50 rfl 31 v1 dX7_copyFrom_47 fl_X7_21 rfl rfl rfl ?_
  refine V_iconst 51 rfl (v := 0) dX7_copyFrom_50 (by decide) ?_
  refine V_aload_n 52 rfl 0 dX7_copyFrom_51 rfl rfl ?_
  refine V_getr 55 rfl 31 v0 dX7_copyFrom_52 fl_X7_21 rfl rfl rfl ?_
  refine V_iconst 56 rfl (v := 0) dX7_copyFrom_55 (by decide) ?_
  refine V_aload_n 57 rfl 0 dX7_copyFrom_56 rfl rfl ?_
  refine V_getr 60 rfl 31 v0 dX7_copyFrom_57 fl_X7_21 rfl rfl rfl ?_
  refine V_alen 61 rfl 4 dX7_copyFrom_60 rfl (by decide) (by decide) ?_
  obtain ⟨hi, h⟩ := zobd h
  refine V_copy 64 rfl dX7_copyFrom_61 ca_X7_69 rfl rfl hi (Nat.le_trans (by decide) hd) (Nat.le_of_ble_eq_true rfl) ?_
  refine V_aload_n 65 rfl 1 dX7_copyFrom_64 rfl rfl ?_
  refine V_getr 68 rfl 32 v1 dX7_copyFrom_65 fl_X7_25 rfl rfl rfl ?_
  refine V_iconst 69 rfl (v := 0) dX7_copyFrom_68 (by decide) ?_
  refine V_aload_n 70 rfl 0 dX7_copyFrom_69 rfl rfl ?_
  refine V_getr 73 rfl 32 v0 dX7_copyFrom_70 fl_X7_25 rfl rfl rfl ?_
  refine V_iconst 74 rfl (v := 0) dX7_copyFrom_73 (by decide) ?_
  refine V_aload_n 75 rfl 0 dX7_copyFrom_74 rfl rfl ?_
  refine V_getr 78 rfl 32 v0 dX7_copyFrom_75 fl_X7_25 rfl rfl rfl ?_
  refine V_alen 79 rfl 26 dX7_copyFrom_78 rfl (by decide) (by decide) ?_
  obtain ⟨hi, h⟩ := zobd h
  refine V_copy 82 rfl dX7_copyFrom_79 ca_X7_69 rfl rfl hi (Nat.le_trans (by decide) hd) (Nat.le_of_ble_eq_true rfl) ?_
  refine V_aload_n 83 rfl 1 dX7_copyFrom_82 rfl rfl ?_
  refine V_getr 86 rfl 33 v1 dX7_copyFrom_83 fl_X7_28 rfl rfl rfl ?_
  refine V_iconst 87 rfl (v := 0) dX7_copyFrom_86 (by decide) ?_
  refine V_aload_n 88 rfl 0 dX7_copyFrom_87 rfl rfl ?_
  refine V_getr 91 rfl 33 v0 dX7_copyFrom_88 fl_X7_28 rfl rfl rfl ?_
  refine V_iconst 92 rfl (v := 0) dX7_copyFrom_91 (by decide) ?_
  refine V_aload_n 93 rfl 0 dX7_copyFrom_92 rfl rfl ?_
  refine V_getr 96 rfl 33 v0 dX7_copyFrom_93 fl_X7_28 rfl rfl rfl ?_
  refine V_alen 97 rfl 104 dX7_copyFrom_96 rfl (by decide) (by decide) ?_
  obtain ⟨hi, h⟩ := zobd h
  refine V_copy 100 rfl dX7_copyFrom_97 ca_X7_69 rfl rfl hi (Nat.le_trans (by decide) hd) (Nat.le_of_ble_eq_true rfl) ?_
  refine V_aload_n 101 rfl 1 dX7_copyFrom_100 rfl rfl ?_
  refine V_getr 104 rfl 34 v1 dX7_copyFrom_101 fl_X7_31 rfl rfl rfl ?_
  refine V_iconst 105 rfl (v := 0) dX7_copyFrom_104 (by decide) ?_
  refine V_aload_n 106 rfl 0 dX7_copyFrom_105 rfl rfl ?_
  refine V_getr 109 rfl 34 v0 dX7_copyFrom_106 fl_X7_31 rfl rfl rfl ?_
  refine V_iconst 110 rfl (v := 0) dX7_copyFrom_109 (by decide) ?_
  refine V_aload_n 111 rfl 0 dX7_copyFrom_110 rfl rfl ?_
  refine V_getr 114 rfl 34 v0 dX7_copyFrom_111 fl_X7_31 rfl rfl rfl ?_
  refine V_alen 115 rfl 104 dX7_copyFrom_114 rfl (by decide) (by decide) ?_
  obtain ⟨hi, h⟩ := zobd h
  refine V_copy 118 rfl dX7_copyFrom_115 ca_X7_69 rfl rfl hi (Nat.le_trans (by decide) hd) (Nat.le_of_ble_eq_true rfl) ?_
  exact V_vret dX7_copyFrom_118 rfl (hQ ((zcp ((zcp ((zcp ((zcp x2 31 v1 (zn 0) 31 v0 (zn 0) (zn 4))) 32 v1 (zn 0) 32 v0 (zn 0) (zn 26))) 33 v1 (zn 0) 33 v0 (zn 0) (zn 104))) 34 v1 (zn 0) 34 v0 (zn 0) (zn 104))) (zinj h))
theorem ctX7_copyFrom {E : zE} {d : Nat} (hd : 2 ≤ d) {v0 : Nat} {v1 : Nat} {mm : zM} {o : zM} (h : fX7_copyFrom v0 v1 mm = some o) : zOC E yX7_copyFrom cX7_copyFrom 2 none d [zK 7 v0, zK 7 v1] mm none o :=
  zCT_of (by decide) (Nat.le_of_ble_eq_true rfl) (zk_k (zk_k zk_0)) rfl (wX7_copyFrom hd h (fun r e => ⟨rfl, by rw [e]⟩))
def fX1_record (v1 : Int32) (v2 : Nat) (mm : zM) : Option zM :=
  zob (zin ((gi mm 1 0 2)) 10) ((fX7_copyFrom ((48 + zn ((gi mm 1 0 2)))) v2 mm).bind (fun x1 => zob (zin ((gi x1 1 0 2)) 10) (some ((wi ((wi ((wi x1 15 0 (zn ((gi x1 1 0 2))) v1)) 1 0 2 ((((((gi ((wi x1 15 0 (zn ((gi x1 1 0 2))) v1)) 1 0 2)) + 1)) - ((((gi ((wi x1 15 0 (zn ((gi x1 1 0 2))) v1)) 1 0 2)) + 1)) / 10 * 10)))) 1 0 3 ((if 10 < ((((gi ((wi ((wi x1 15 0 (zn ((gi x1 1 0 2))) v1)) 1 0 2 ((((((gi ((wi x1 15 0 (zn ((gi x1 1 0 2))) v1)) 1 0 2)) + 1)) - ((((gi ((wi x1 15 0 (zn ((gi x1 1 0 2))) v1)) 1 0 2)) + 1)) / 10 * 10)))) 1 0 3)) + 1)) then 10 else ((((gi ((wi ((wi x1 15 0 (zn ((gi x1 1 0 2))) v1)) 1 0 2 ((((((gi ((wi x1 15 0 (zn ((gi x1 1 0 2))) v1)) 1 0 2)) + 1)) - ((((gi ((wi x1 15 0 (zn ((gi x1 1 0 2))) v1)) 1 0 2)) + 1)) / 10 * 10)))) 1 0 3)) + 1)))))))))
theorem wX1_record {E : zE} {d : Nat} (hd : 3 ≤ d) {Q : Option zV → zM → Prop} {v1 : Int32} {v2 : Nat} {mm : zM} {o : zM} (h : fX1_record v1 v2 mm = some o) (hQ : ∀ r, o = r → Q none r) : V E RX1 cX1_record 3 none d Q 0 [some (zK 1 0), some (zI v1), some (zK 7 v2)] [] mm := by
  unfold fX1_record at h
  refine V_aload_n 1 rfl 0 dX1_record_0 rfl rfl ?_
  refine V_getr 4 rfl 14 0 dX1_record_1 fl_X1_11 rfl rfl rfl ?_
  refine V_aload_n 5 rfl 0 dX1_record_4 rfl rfl ?_
  refine V_geti 8 rfl dX1_record_5 fl_X1_26 rfl ?_
  obtain ⟨hi, h⟩ := zobd h
  refine V_aald 9 rfl 7 (48 + zn ((gi mm 1 0 2))) dX1_record_8 rfl (by decide) (by decide) rfl rfl hi ?_
  refine V_aload_n 10 rfl 2 dX1_record_9 rfl rfl ?_
  obtain ⟨x1, h1, h⟩ := zbd h
  refine V_cV 13 rfl 2 [zK 7 v2] [] dX1_record_10 cv_X1_29 (ctX7_copyFrom (Nat.le_refl 2) h1) (Nat.le_trans (by decide) hd) rfl rfl (Nat.le_of_ble_eq_true rfl) zokn rfl ?_
  refine V_aload_n 14 rfl 0 dX1_record_13 rfl rfl ?_
  refine V_getr 17 rfl 15 0 dX1_record_14 fl_X1_17 rfl rfl rfl ?_
  refine V_aload_n 18 rfl 0 dX1_record_17 rfl rfl ?_
  refine V_geti 21 rfl dX1_record_18 fl_X1_26 rfl ?_
  refine V_iload_n 22 rfl 1 dX1_record_21 rfl rfl ?_
  obtain ⟨hi, h⟩ := zobd h
  refine V_iast 23 rfl dX1_record_22 rfl hi ?_
  refine V_aload_n 24 rfl 0 dX1_record_23 rfl rfl ?_
  refine V_aload_n 25 rfl 0 dX1_record_24 rfl rfl ?_
  refine V_geti 28 rfl dX1_record_25 fl_X1_26 rfl ?_
  refine V_iconst 29 rfl (v := 1) dX1_record_28 (by decide) ?_
  refine V_iadd 30 rfl dX1_record_29 ?_
  refine V_bipush 32 rfl (v := 10) dX1_record_30 (by decide) ?_
  refine V_irem 33 rfl dX1_record_32 (by decide) ?_
  refine V_puti 36 rfl dX1_record_33 fw_X1_26 rfl rfl rfl ?_
  refine V_aload_n 37 rfl 0 dX1_record_36 rfl rfl ?_
  refine V_aload_n 38 rfl 0 dX1_record_37 rfl rfl ?_
  refine V_geti 41 rfl dX1_record_38 fl_X1_22 rfl ?_
  refine V_iconst 42 rfl (v := 1) dX1_record_41 (by decide) ?_
  refine V_iadd 43 rfl dX1_record_42 ?_
  refine V_bipush 45 rfl (v := 10) dX1_record_43 (by decide) ?_
  refine V_mmin 48 rfl dX1_record_45 tb_690 (Nat.le_trans (by decide) hd) (Nat.le_of_ble_eq_true rfl) ?_
  refine V_puti 51 rfl dX1_record_48 fw_X1_22 rfl rfl rfl ?_
  exact V_vret dX1_record_51 rfl (hQ ((wi ((wi ((wi x1 15 0 (zn ((gi x1 1 0 2))) v1)) 1 0 2 ((((((gi ((wi x1 15 0 (zn ((gi x1 1 0 2))) v1)) 1 0 2)) + 1)) - ((((gi ((wi x1 15 0 (zn ((gi x1 1 0 2))) v1)) 1 0 2)) + 1)) / 10 * 10)))) 1 0 3 ((if 10 < ((((gi ((wi ((wi x1 15 0 (zn ((gi x1 1 0 2))) v1)) 1 0 2 ((((((gi ((wi x1 15 0 (zn ((gi x1 1 0 2))) v1)) 1 0 2)) + 1)) - ((((gi ((wi x1 15 0 (zn ((gi x1 1 0 2))) v1)) 1 0 2)) + 1)) / 10 * 10)))) 1 0 3)) + 1)) then 10 else ((((gi ((wi ((wi x1 15 0 (zn ((gi x1 1 0 2))) v1)) 1 0 2 ((((((gi ((wi x1 15 0 (zn ((gi x1 1 0 2))) v1)) 1 0 2)) + 1)) - ((((gi ((wi x1 15 0 (zn ((gi x1 1 0 2))) v1)) 1 0 2)) + 1)) / 10 * 10)))) 1 0 3)) + 1)))))) (zinj h))
theorem ctX1_record {E : zE} {d : Nat} (hd : 3 ≤ d) {v1 : Int32} {v2 : Nat} {mm : zM} {o : zM} (h : fX1_record v1 v2 mm = some o) : zOC E yX1_record cX1_record 3 none d [zK 1 0, zI v1, zK 7 v2] mm none o :=
  zCT_of (by decide) (Nat.le_of_ble_eq_true rfl) (zk_k (zk_i (zk_k zk_0))) rfl (wX1_record hd h (fun r e => ⟨rfl, by rw [e]⟩))
def fX9_beginAct (v1 : Int32) (mm : zM) : Option zM :=
  (gr mm 9 2).bind (fun j1 => zob (zin v1 12) ((fX1_record v1 ((12 * j1 + zn v1)) mm).bind (fun x2 => some ((wi x2 9 0 12 1)))))
theorem wX9_beginAct {E : zE} {d : Nat} (hd : 4 ≤ d) {Q : Option zV → zM → Prop} {v1 : Int32} {mm : zM} {o : zM} (h : fX9_beginAct v1 mm = some o) (hQ : ∀ r, o = r → Q none r) : V E RX9 cX9_beginAct 2 none d Q 0 [some (zK 9 0), some (zI v1)] [] mm := by
  unfold fX9_beginAct at h
  refine V_aload_n 1 rfl 0 dX9_beginAct_0 rfl rfl ?_
  refine V_getr 4 rfl 1 0 dX9_beginAct_1 fl_X9_37 rfl rfl rfl ?_
  refine V_iload_n 5 rfl 1 dX9_beginAct_4 rfl rfl ?_
  refine V_aload_n 6 rfl 0 dX9_beginAct_5 rfl rfl ?_
  obtain ⟨j1, hj, h⟩ := zbd h
  refine V_getm 9 rfl 8 dX9_beginAct_6 fl_X9_16 rfl rfl hj ?_
  refine V_getr 12 rfl 35 j1 dX9_beginAct_9 fl_X9_98 rfl rfl rfl ?_
  refine V_iload_n 13 rfl 1 dX9_beginAct_12 rfl rfl ?_
  obtain ⟨hi, h⟩ := zobd h
  refine V_aald 14 rfl 7 (12 * j1 + zn v1) dX9_beginAct_13 rfl (by decide) (by decide) rfl rfl hi ?_
  obtain ⟨x2, h1, h⟩ := zbd h
  refine V_cV 17 rfl 3 [zI v1, zK 7 (12 * j1 + zn v1)] [] dX9_beginAct_14 cv_X9_182 (ctX1_record (Nat.le_refl 3) h1) (Nat.le_trans (by decide) hd) rfl rfl (Nat.le_of_ble_eq_true rfl) zokn rfl ?_
  refine V_aload_n 18 rfl 0 dX9_beginAct_17 rfl rfl ?_
  refine V_iconst 19 rfl (v := 1) dX9_beginAct_18 (by decide) ?_
  refine V_puti 22 rfl dX9_beginAct_19 fw_X9_90 rfl rfl rfl ?_
  exact V_vret dX9_beginAct_22 rfl (hQ ((wi x2 9 0 12 1)) (zinj h))
theorem ctX9_beginAct {E : zE} {d : Nat} (hd : 4 ≤ d) {v1 : Int32} {mm : zM} {o : zM} (h : fX9_beginAct v1 mm = some o) : zOC E yX9_beginAct cX9_beginAct 2 none d [zK 9 0, zI v1] mm none o :=
  zCT_of (by decide) (Nat.le_of_ble_eq_true rfl) (zk_k (zk_i zk_0)) rfl (wX9_beginAct hd h (fun r e => ⟨rfl, by rw [e]⟩))
def fX9_join (v1 : Int32) (v2 : Int32) (mm : zM) : Option (Int32 × zM) :=
  (gr mm 9 2).bind (fun j1 => (fX8_isType j1 v1 mm).bind (fun x2 => if x2 = 0 then (some (((-1), mm))) else ((gr mm 9 2).bind (fun j3 => (fX8_isType j3 v2 mm).bind (fun x4 => if x4 = 0 then (some (((-1), mm))) else (if v2 < v1 then ((gr mm 9 2).bind (fun j5 => zob (zin v1 12) ((fX5_placeOf ((2 * (12 * j5 + zn v1))) v2 mm).bind (fun x6 => if x6 = (-1) then (if (gi mm 5 (2 * (12 * j5 + zn v1)) 1) < 4 then ((fX9_beginAct v1 mm).bind (fun x7 => (fX5_add ((2 * (12 * j5 + zn v1))) v2 x7).bind (fun x8 => some (((gi x8 5 (2 * (12 * j5 + zn v1)) 1), x8))))) else (some (((-3), mm)))) else (some (((-2), mm))))))) else (some (((-1), mm)))))))))
theorem wX9_join {E : zE} {d : Nat} (hd : 5 ≤ d) {Q : Option zV → zM → Prop} {v1 : Int32} {v2 : Int32} {mm : zM} {o : (Int32 × zM)} (h : fX9_join v1 v2 mm = some o) (hQ : ∀ r, o = r → Q (some (zI r.1)) r.2) : V E RX9 cX9_join 4 (some .int) d Q 0 [some (zK 9 0), some (zI v1), some (zI v2), none] [] mm := by
  unfold fX9_join at h
  refine V_aload_n 1 rfl 0 dX9_join_0 rfl rfl ?_
  obtain ⟨j1, hj, h⟩ := zbd h
  refine V_getm 4 rfl 8 dX9_join_1 fl_X9_16 rfl rfl hj ?_
  refine V_iload_n 5 rfl 1 dX9_join_4 rfl rfl ?_
  obtain ⟨x2, h1, h⟩ := zbd h
  refine V_cV 8 rfl 1 [zI v1] [] dX9_join_5 cv_X9_94 (ctX8_isType (Nat.le_refl 1) h1) (Nat.le_trans (by decide) hd) rfl rfl (Nat.le_of_ble_eq_true rfl) zoki rfl ?_
  refine V_if_eq 11 27 rfl dX9_join_8 (by decide) (fun c => ?_) (fun c => ?_)
  · have h := zpos c h
    refine V_iconst 28 rfl (v := (-1)) dX9_join_27 (by decide) ?_
    exact V_iret dX9_join_28 rfl (hQ (((-1), mm)) (zinj h))
  · have h := zneg c h
    refine V_aload_n 12 rfl 0 dX9_join_11 rfl rfl ?_
    obtain ⟨j3, hj, h⟩ := zbd h
    refine V_getm 15 rfl 8 dX9_join_12 fl_X9_16 rfl rfl hj ?_
    refine V_iload_n 16 rfl 2 dX9_join_15 rfl rfl ?_
    obtain ⟨x4, h1, h⟩ := zbd h
    refine V_cV 19 rfl 1 [zI v2] [] dX9_join_16 cv_X9_94 (ctX8_isType (Nat.le_refl 1) h1) (Nat.le_trans (by decide) hd) rfl rfl (Nat.le_of_ble_eq_true rfl) zoki rfl ?_
    refine V_if_eq 22 27 rfl dX9_join_19 (by decide) (fun c => ?_) (fun c => ?_)
    · have h := zpos c h
      refine V_iconst 28 rfl (v := (-1)) dX9_join_27 (by decide) ?_
      exact V_iret dX9_join_28 rfl (hQ (((-1), mm)) (zinj h))
    · have h := zneg c h
      refine V_iload_n 23 rfl 2 dX9_join_22 rfl rfl ?_
      refine V_iload_n 24 rfl 1 dX9_join_23 rfl rfl ?_
      refine V_icmp_lt 27 29 rfl dX9_join_24 (by decide) (fun c => ?_) (fun c => ?_)
      · have h := zpos c h
        refine V_aload_n 30 rfl 0 dX9_join_29 rfl rfl ?_
        obtain ⟨j5, hj, h⟩ := zbd h
        refine V_getm 33 rfl 8 dX9_join_30 fl_X9_16 rfl rfl hj ?_
        refine V_getr 36 rfl 35 j5 dX9_join_33 fl_X9_98 rfl rfl rfl ?_
        refine V_iload_n 37 rfl 1 dX9_join_36 rfl rfl ?_
        obtain ⟨hi, h⟩ := zobd h
        refine V_aald 38 rfl 7 (12 * j5 + zn v1) dX9_join_37 rfl (by decide) (by decide) rfl rfl hi ?_
        refine V_getr 41 rfl 5 (2 * (12 * j5 + zn v1)) dX9_join_38 fl_X9_102 rfl rfl rfl ?_
        refine V_astore_n 42 rfl 3 (L' := [some (zK 9 0), some (zI v1), some (zI v2), some (zK 5 (2 * (12 * j5 + zn v1)))]) dX9_join_41 rfl (by decide) rfl ?_
        refine V_aload_n 43 rfl 3 dX9_join_42 rfl rfl ?_
        refine V_iload_n 44 rfl 2 dX9_join_43 rfl rfl ?_
        obtain ⟨x6, h1, h⟩ := zbd h
        refine V_cV 47 rfl 0 [zI v2] [] dX9_join_44 cv_X9_108 (ctX5_placeOf (Nat.le_refl 0) h1) (Nat.le_trans (by decide) hd) rfl rfl (Nat.le_of_ble_eq_true rfl) zoki rfl ?_
        refine V_iconst 48 rfl (v := (-1)) dX9_join_47 (by decide) ?_
        refine V_icmp_eq 51 54 rfl dX9_join_48 (by decide) (fun c => ?_) (fun c => ?_)
        · have h := zpos c h
          refine V_aload_n 55 rfl 3 dX9_join_54 rfl rfl ?_
          refine V_geti 58 rfl dX9_join_55 fl_X9_114 rfl ?_
          refine V_iconst 59 rfl (v := 4) dX9_join_58 (by decide) ?_
          refine V_icmp_lt 62 65 rfl dX9_join_59 (by decide) (fun c => ?_) (fun c => ?_)
          · have h := zpos c h
            refine V_aload_n 66 rfl 0 dX9_join_65 rfl rfl ?_
            refine V_iload_n 67 rfl 1 dX9_join_66 rfl rfl ?_
            obtain ⟨x7, h1, h⟩ := zbd h
            refine V_cV 70 rfl 4 [zI v1] [] dX9_join_67 cv_X9_115 (ctX9_beginAct (Nat.le_refl 4) h1) (Nat.le_trans (by decide) hd) rfl rfl (Nat.le_of_ble_eq_true rfl) zokn rfl ?_
            refine V_aload_n 71 rfl 3 dX9_join_70 rfl rfl ?_
            refine V_iload_n 72 rfl 2 dX9_join_71 rfl rfl ?_
            obtain ⟨x8, h1, h⟩ := zbd h
            refine V_cV 75 rfl 0 [zI v2] [] dX9_join_72 cv_X9_118 (ctX5_add (Nat.le_refl 0) h1) (Nat.le_trans (by decide) hd) rfl rfl (Nat.le_of_ble_eq_true rfl) zokn rfl ?_
            refine V_aload_n 76 rfl 3 dX9_join_75 rfl rfl ?_
            refine V_geti 79 rfl dX9_join_76 fl_X9_114 rfl ?_
            exact V_iret dX9_join_79 rfl (hQ (((gi x8 5 (2 * (12 * j5 + zn v1)) 1), x8)) (zinj h))
          · have h := zneg c h
            refine V_bipush 64 rfl (v := (-3)) dX9_join_62 (by decide) ?_
            exact V_iret dX9_join_64 rfl (hQ (((-3), mm)) (zinj h))
        · have h := zneg c h
          refine V_bipush 53 rfl (v := (-2)) dX9_join_51 (by decide) ?_
          exact V_iret dX9_join_53 rfl (hQ (((-2), mm)) (zinj h))
      · have h := zneg c h
        refine V_iconst 28 rfl (v := (-1)) dX9_join_27 (by decide) ?_
        exact V_iret dX9_join_28 rfl (hQ (((-1), mm)) (zinj h))
theorem ctX9_join {E : zE} {d : Nat} (hd : 5 ≤ d) {v1 : Int32} {v2 : Int32} {mm : zM} {o : (Int32 × zM)} (h : fX9_join v1 v2 mm = some o) : zOC E yX9_join cX9_join 4 (some .int) d [zK 9 0, zI v1, zI v2] mm (some (zI o.1)) o.2 :=
  zCT_of (by decide) (Nat.le_of_ble_eq_true rfl) (zk_k (zk_i (zk_i zk_0))) rfl (wX9_join hd h (fun r e => ⟨by rw [e], by rw [e]⟩))
