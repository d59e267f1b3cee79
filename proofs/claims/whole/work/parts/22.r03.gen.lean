def fX10_moves_40_38_L3 (v1 : Int32) (v3 : Int32) (s : (Int32 × zM)) : Option ((Int32 × zM) ⊕ (zM ⊕ Empty)) :=
  if 1357 ≤ s.1 then (some (.inr (.inl s.2))) else (zob (zin ((v1 + s.1)) 13570) (zob (zin ((v3 + s.1)) 1357) (some (.inl ((s.1 + 1), (wi s.2 38 0 (zn ((v3 + s.1))) ((gi s.2 40 0 (zn ((v1 + s.1)))))))))))
def fX10_moves_40_38 (v1 : Int32) (v3 : Int32) (mm : zM) : Option zM :=
  (zloop (fX10_moves_40_38_L3 v1 v3) zF (0, mm)).bind (fun o3 => zcase o3 (fun y1 => some y1) (fun r2 => r2.elim))
theorem wX10_moves_40_38_L3 {E : zE} {d : Nat} (hd : 0 ≤ d) {Q : Option zV → zM → Prop} {v1 : Int32} {v3 : Int32} {n : Nat} {s : (Int32 × zM)} {o : zM ⊕ Empty} (h : zloop (fX10_moves_40_38_L3 v1 v3) n s = some o) (he : ∀ y : zM, o = .inl y → V E RX10 cX10_moves 5 none d Q 29 [none, none, none, none, none] [] y) : V E RX10 cX10_moves 5 none d Q 3 [some (zK 40 0), some (zI v1), some (zK 38 0), some (zI v3), some (zI s.1)] [] s.2 := by
  induction n generalizing s with
  | zero => exact (zloop_0 h).elim
  | succ n ih =>
    obtain ⟨o1, h1, hc1, he1⟩ := zloop_s h
    have kc : ∀ s' : (Int32 × zM), o1 = .inl s' → V E RX10 cX10_moves 5 none d Q 3 [some (zK 40 0), some (zI v1), some (zK 38 0), some (zI v3), some (zI s'.1)] [] s'.2 := fun s' e => ih (hc1 s' e)
    have ke : ∀ y : zM, o1 = .inr (.inl y) → V E RX10 cX10_moves 5 none d Q 29 [none, none, none, none, none] [] y := fun y e => he y (he1 _ e)
    clear h hc1 he1 ih
    have h := h1
    clear h1
    unfold fX10_moves_40_38_L3 at h
    refine V_iload 5 rfl dX10_moves_3 rfl ?_
    refine V_sipush 8 rfl (v := 1357) dX10_moves_5 (by decide) ?_
    refine V_icmp_ge 11 29 rfl dX10_moves_8 (by decide) (fun c => ?_) (fun c => ?_)
    · have h := zpos c h
      exact V_w (zsub_n (zsub_n (zsub_n (zsub_n (zsub_n zsub_0))))) (ke s.2 (zinj h))
    · have h := zneg c h
      refine V_aload_n 12 rfl 2 dX10_moves_11 rfl rfl ?_
      refine V_iload_n 13 rfl 3 dX10_moves_12 rfl rfl ?_
      refine V_iload 15 rfl dX10_moves_13 rfl ?_
      refine V_iadd 16 rfl dX10_moves_15 ?_
      refine V_aload_n 17 rfl 0 dX10_moves_16 rfl rfl ?_
      refine V_iload_n 18 rfl 1 dX10_moves_17 rfl rfl ?_
      refine V_iload 20 rfl dX10_moves_18 rfl ?_
      refine V_iadd 21 rfl dX10_moves_20 ?_
      obtain ⟨hi, h⟩ := zobd h
      refine V_iald 22 rfl dX10_moves_21 rfl hi ?_
      obtain ⟨hi, h⟩ := zobd h
      refine V_iast 23 rfl dX10_moves_22 rfl hi ?_
      refine V_iinc 26 rfl (s.1 + 1) (L' := [some (zK 40 0), some (zI v1), some (zK 38 0), some (zI v3), some (zI (s.1 + 1))]) dX10_moves_23 rfl rfl (by decide) rfl ?_
      refine V_goto 3 dX10_moves_26 (by decide) ?_
      exact kc ((s.1 + 1), (wi s.2 38 0 (zn ((v3 + s.1))) ((gi s.2 40 0 (zn ((v1 + s.1))))))) (zinj h)
theorem wX10_moves_40_38 {E : zE} {d : Nat} (hd : 0 ≤ d) {Q : Option zV → zM → Prop} {v1 : Int32} {v3 : Int32} {mm : zM} {o : zM} (h : fX10_moves_40_38 v1 v3 mm = some o) (hQ : ∀ r, o = r → Q none r) : V E RX10 cX10_moves 5 none d Q 0 [some (zK 40 0), some (zI v1), some (zK 38 0), some (zI v3), none] [] mm := by
  unfold fX10_moves_40_38 at h
  refine V_iconst 1 rfl (v := 0) dX10_moves_0 (by decide) ?_
  refine V_istore 3 rfl (L' := [some (zK 40 0), some (zI v1), some (zK 38 0), some (zI v3), some (zI 0)]) dX10_moves_1 (by decide) rfl ?_
  obtain ⟨o3, h1, h⟩ := zbd h
  refine wX10_moves_40_38_L3 hd h1 (fun y1 e => ?_)
  have h := zcl_ e h
  exact V_vret dX10_moves_29 rfl (hQ y1 (zinj h))
theorem ctX10_moves_40_38 {E : zE} {d : Nat} (hd : 0 ≤ d) {v1 : Int32} {v3 : Int32} {mm : zM} {o : zM} (h : fX10_moves_40_38 v1 v3 mm = some o) : zOC E yX10_moves cX10_moves 5 none d [zK 40 0, zI v1, zK 38 0, zI v3] mm none o :=
  zCT_of (by decide) (Nat.le_of_ble_eq_true rfl) (zk_k (zk_i (zk_k (zk_i zk_0)))) rfl (wX10_moves_40_38 hd h (fun r e => ⟨rfl, by rw [e]⟩))
def fX10_undo (mm : zM) : Option (Int32 × zM) :=
  if (gi mm 10 0 5) = 0 then (some (((-1), mm))) else ((fX10_moves_40_38 ((1357 * ((gi ((wi mm 10 0 5 ((((gi mm 10 0 5)) - 1)))) 10 0 5)))) 0 ((wi mm 10 0 5 ((((gi mm 10 0 5)) - 1))))).bind (fun x1 => some (((gi x1 10 0 5), x1))))
theorem wX10_undo {E : zE} {d : Nat} (hd : 1 ≤ d) {Q : Option zV → zM → Prop} {mm : zM} {o : (Int32 × zM)} (h : fX10_undo mm = some o) (hQ : ∀ r, o = r → Q (some (zI r.1)) r.2) : V E RX10 cX10_undo 1 (some .int) d Q 0 [some (zK 10 0)] [] mm := by
  unfold fX10_undo at h
  refine V_aload_n 1 rfl 0 dX10_undo_0 rfl rfl ?_
  refine V_geti 4 rfl dX10_undo_1 fl_X10_198 rfl ?_
  refine V_if_ne 7 9 rfl dX10_undo_4 (by decide) (fun c => ?_) (fun c => ?_)
  · have h := zneg c h
    refine V_aload_n 10 rfl 0 dX10_undo_9 rfl rfl ?_
    refine V_dup 11 rfl dX10_undo_10 rfl ?_
    refine V_geti 14 rfl dX10_undo_11 fl_X10_198 rfl ?_
    refine V_iconst 15 rfl (v := 1) dX10_undo_14 (by decide) ?_
    refine V_isub 16 rfl dX10_undo_15 ?_
    refine V_puti 19 rfl dX10_undo_16 fw_X10_198 rfl rfl rfl ?_
    refine V_aload_n 20 rfl 0 dX10_undo_19 rfl rfl ?_
    refine V_getr 23 rfl 40 0 dX10_undo_20 fl_X10_18 rfl rfl rfl ?_
    refine V_sipush 26 rfl (v := 1357) dX10_undo_23 (by decide) ?_
    refine V_aload_n 27 rfl 0 dX10_undo_26 rfl rfl ?_
    refine V_geti 30 rfl dX10_undo_27 fl_X10_198 rfl ?_
    refine V_imul 31 rfl dX10_undo_30 ?_
    refine V_aload_n 32 rfl 0 dX10_undo_31 rfl rfl ?_
    refine V_getr 35 rfl 38 0 dX10_undo_32 fl_X10_11 rfl rfl rfl ?_
    refine V_iconst 36 rfl (v := 0) dX10_undo_35 (by decide) ?_
    obtain ⟨x1, h1, h⟩ := zbd h
    refine V_cS 39 rfl 0 [zK 40 0, zI (1357 * ((gi ((wi mm 10 0 5 ((((gi mm 10 0 5)) - 1)))) 10 0 5))), zK 38 0, zI 0] [] dX10_undo_36 cs_X10_194 (ctX10_moves_40_38 (Nat.le_refl 0) h1) (Nat.le_trans (by decide) hd) rfl rfl (Nat.le_of_ble_eq_true rfl) zokn rfl ?_
    refine V_aload_n 40 rfl 0 dX10_undo_39 rfl rfl ?_
    refine V_geti 43 rfl dX10_undo_40 fl_X10_198 rfl ?_
    exact V_iret dX10_undo_43 rfl (hQ (((gi x1 10 0 5), x1)) (zinj h))
  · have h := zpos c h
    refine V_iconst 8 rfl (v := (-1)) dX10_undo_7 (by decide) ?_
    exact V_iret dX10_undo_8 rfl (hQ (((-1), mm)) (zinj h))
theorem ctX10_undo {E : zE} {d : Nat} (hd : 1 ≤ d) {mm : zM} {o : (Int32 × zM)} (h : fX10_undo mm = some o) : zOC E yX10_undo cX10_undo 1 (some .int) d [zK 10 0] mm (some (zI o.1)) o.2 :=
  zCT_of (by decide) (Nat.le_of_ble_eq_true rfl) (zk_k zk_0) rfl (wX10_undo hd h (fun r e => ⟨by rw [e], by rw [e]⟩))
def fX10_moves_38_41_L3 (v1 : Int32) (v3 : Int32) (s : (Int32 × zM)) : Option ((Int32 × zM) ⊕ (zM ⊕ Empty)) :=
  if 1357 ≤ s.1 then (some (.inr (.inl s.2))) else (zob (zin ((v1 + s.1)) 1357) (zob (zin ((v3 + s.1)) 2714) (some (.inl ((s.1 + 1), (wi s.2 41 0 (zn ((v3 + s.1))) ((gi s.2 38 0 (zn ((v1 + s.1)))))))))))
def fX10_moves_38_41 (v1 : Int32) (v3 : Int32) (mm : zM) : Option zM :=
  (zloop (fX10_moves_38_41_L3 v1 v3) zF (0, mm)).bind (fun o3 => zcase o3 (fun y1 => some y1) (fun r2 => r2.elim))
theorem wX10_moves_38_41_L3 {E : zE} {d : Nat} (hd : 0 ≤ d) {Q : Option zV → zM → Prop} {v1 : Int32} {v3 : Int32} {n : Nat} {s : (Int32 × zM)} {o : zM ⊕ Empty} (h : zloop (fX10_moves_38_41_L3 v1 v3) n s = some o) (he : ∀ y : zM, o = .inl y → V E RX10 cX10_moves 5 none d Q 29 [none, none, none, none, none] [] y) : V E RX10 cX10_moves 5 none d Q 3 [some (zK 38 0), some (zI v1), some (zK 41 0), some (zI v3), some (zI s.1)] [] s.2 := by
  induction n generalizing s with
  | zero => exact (zloop_0 h).elim
  | succ n ih =>
    obtain ⟨o1, h1, hc1, he1⟩ := zloop_s h
    have kc : ∀ s' : (Int32 × zM), o1 = .inl s' → V E RX10 cX10_moves 5 none d Q 3 [some (zK 38 0), some (zI v1), some (zK 41 0), some (zI v3), some (zI s'.1)] [] s'.2 := fun s' e => ih (hc1 s' e)
    have ke : ∀ y : zM, o1 = .inr (.inl y) → V E RX10 cX10_moves 5 none d Q 29 [none, none, none, none, none] [] y := fun y e => he y (he1 _ e)
    clear h hc1 he1 ih
    have h := h1
    clear h1
    unfold fX10_moves_38_41_L3 at h
    refine V_iload 5 rfl dX10_moves_3 rfl ?_
    refine V_sipush 8 rfl (v := 1357) dX10_moves_5 (by decide) ?_
    refine V_icmp_ge 11 29 rfl dX10_moves_8 (by decide) (fun c => ?_) (fun c => ?_)
    · have h := zpos c h
      exact V_w (zsub_n (zsub_n (zsub_n (zsub_n (zsub_n zsub_0))))) (ke s.2 (zinj h))
    · have h := zneg c h
      refine V_aload_n 12 rfl 2 dX10_moves_11 rfl rfl ?_
      refine V_iload_n 13 rfl 3 dX10_moves_12 rfl rfl ?_
      refine V_iload 15 rfl dX10_moves_13 rfl ?_
      refine V_iadd 16 rfl dX10_moves_15 ?_
      refine V_aload_n 17 rfl 0 dX10_moves_16 rfl rfl ?_
      refine V_iload_n 18 rfl 1 dX10_moves_17 rfl rfl ?_
      refine V_iload 20 rfl dX10_moves_18 rfl ?_
      refine V_iadd 21 rfl dX10_moves_20 ?_
      obtain ⟨hi, h⟩ := zobd h
      refine V_iald 22 rfl dX10_moves_21 rfl hi ?_
      obtain ⟨hi, h⟩ := zobd h
      refine V_iast 23 rfl dX10_moves_22 rfl hi ?_
      refine V_iinc 26 rfl (s.1 + 1) (L' := [some (zK 38 0), some (zI v1), some (zK 41 0), some (zI v3), some (zI (s.1 + 1))]) dX10_moves_23 rfl rfl (by decide) rfl ?_
      refine V_goto 3 dX10_moves_26 (by decide) ?_
      exact kc ((s.1 + 1), (wi s.2 41 0 (zn ((v3 + s.1))) ((gi s.2 38 0 (zn ((v1 + s.1))))))) (zinj h)
theorem wX10_moves_38_41 {E : zE} {d : Nat} (hd : 0 ≤ d) {Q : Option zV → zM → Prop} {v1 : Int32} {v3 : Int32} {mm : zM} {o : zM} (h : fX10_moves_38_41 v1 v3 mm = some o) (hQ : ∀ r, o = r → Q none r) : V E RX10 cX10_moves 5 none d Q 0 [some (zK 38 0), some (zI v1), some (zK 41 0), some (zI v3), none] [] mm := by
  unfold fX10_moves_38_41 at h
  refine V_iconst 1 rfl (v := 0) dX10_moves_0 (by decide) ?_
  refine V_istore 3 rfl (L' := [some (zK 38 0), some (zI v1), some (zK 41 0), some (zI v3), some (zI 0)]) dX10_moves_1 (by decide) rfl ?_
  obtain ⟨o3, h1, h⟩ := zbd h
  refine wX10_moves_38_41_L3 hd h1 (fun y1 e => ?_)
  have h := zcl_ e h
  exact V_vret dX10_moves_29 rfl (hQ y1 (zinj h))
theorem ctX10_moves_38_41 {E : zE} {d : Nat} (hd : 0 ≤ d) {v1 : Int32} {v3 : Int32} {mm : zM} {o : zM} (h : fX10_moves_38_41 v1 v3 mm = some o) : zOC E yX10_moves cX10_moves 5 none d [zK 38 0, zI v1, zK 41 0, zI v3] mm none o :=
  zCT_of (by decide) (Nat.le_of_ble_eq_true rfl) (zk_k (zk_i (zk_k (zk_i zk_0)))) rfl (wX10_moves_38_41 hd h (fun r e => ⟨rfl, by rw [e]⟩))
def fX10_keep (v1 : Int32) (mm : zM) : Option (Int32 × zM) :=
  (fX10_in v1 0 1 mm).bind (fun x1 => if x1 = 0 then (some (((-1), mm))) else ((fX10_moves_38_41 0 ((1357 * v1)) mm).bind (fun x2 => zob (zin v1 2) (some (((gi ((wi x2 42 0 (zn v1) (1 &&& 1))) 38 0 (zn 1356)), (wi x2 42 0 (zn v1) (1 &&& 1))))))))
theorem wX10_keep {E : zE} {d : Nat} (hd : 1 ≤ d) {Q : Option zV → zM → Prop} {v1 : Int32} {mm : zM} {o : (Int32 × zM)} (h : fX10_keep v1 mm = some o) (hQ : ∀ r, o = r → Q (some (zI r.1)) r.2) : V E RX10 cX10_keep 2 (some .int) d Q 0 [some (zK 10 0), some (zI v1)] [] mm := by
  unfold fX10_keep at h
  refine V_iload_n 1 rfl 1 dX10_keep_0 rfl rfl ?_
  refine V_iconst 2 rfl (v := 0) dX10_keep_1 (by decide) ?_
  refine V_iconst 3 rfl (v := 1) dX10_keep_2 (by decide) ?_
  obtain ⟨x1, h1, h⟩ := zbd h
  refine V_cS 6 rfl 0 [zI v1, zI 0, zI 1] [] dX10_keep_3 cs_X10_88 (ctX10_in (Nat.le_refl 0) h1) (Nat.le_trans (by decide) hd) rfl rfl (Nat.le_of_ble_eq_true rfl) zoki rfl ?_
  refine V_if_ne 9 11 rfl dX10_keep_6 (by decide) (fun c => ?_) (fun c => ?_)
  · have h := zneg c h
    refine V_aload_n 12 rfl 0 dX10_keep_11 rfl rfl ?_
    refine V_getr 15 rfl 38 0 dX10_keep_12 fl_X10_11 rfl rfl rfl ?_
    refine V_iconst 16 rfl (v := 0) dX10_keep_15 (by decide) ?_
    refine V_aload_n 17 rfl 0 dX10_keep_16 rfl rfl ?_
    refine V_getr 20 rfl 41 0 dX10_keep_17 fl_X10_21 rfl rfl rfl ?_
    refine V_sipush 23 rfl (v := 1357) dX10_keep_20 (by decide) ?_
    refine V_iload_n 24 rfl 1 dX10_keep_23 rfl rfl ?_
    refine V_imul 25 rfl dX10_keep_24 ?_
    obtain ⟨x2, h1, h⟩ := zbd h
    refine V_cS 28 rfl 0 [zK 38 0, zI 0, zK 41 0, zI (1357 * v1)] [] dX10_keep_25 cs_X10_194 (ctX10_moves_38_41 (Nat.le_refl 0) h1) (Nat.le_trans (by decide) hd) rfl rfl (Nat.le_of_ble_eq_true rfl) zokn rfl ?_
    refine V_aload_n 29 rfl 0 dX10_keep_28 rfl rfl ?_
    refine V_getr 32 rfl 42 0 dX10_keep_29 fl_X10_24 rfl rfl rfl ?_
    refine V_iload_n 33 rfl 1 dX10_keep_32 rfl rfl ?_
    refine V_iconst 34 rfl (v := 1) dX10_keep_33 (by decide) ?_
    obtain ⟨hi, h⟩ := zobd h
    refine V_zast 35 rfl dX10_keep_34 rfl hi ?_
    refine V_aload_n 36 rfl 0 dX10_keep_35 rfl rfl ?_
    refine V_getr 39 rfl 38 0 dX10_keep_36 fl_X10_11 rfl rfl rfl ?_
    refine V_sipush 42 rfl (v := 1356) dX10_keep_39 (by decide) ?_
    refine V_iald 43 rfl dX10_keep_42 rfl (by decide) ?_
    exact V_iret dX10_keep_43 rfl (hQ (((gi ((wi x2 42 0 (zn v1) (1 &&& 1))) 38 0 (zn 1356)), (wi x2 42 0 (zn v1) (1 &&& 1)))) (zinj h))
  · have h := zpos c h
    refine V_iconst 10 rfl (v := (-1)) dX10_keep_9 (by decide) ?_
    exact V_iret dX10_keep_10 rfl (hQ (((-1), mm)) (zinj h))
theorem ctX10_keep {E : zE} {d : Nat} (hd : 1 ≤ d) {v1 : Int32} {mm : zM} {o : (Int32 × zM)} (h : fX10_keep v1 mm = some o) : zOC E yX10_keep cX10_keep 2 (some .int) d [zK 10 0, zI v1] mm (some (zI o.1)) o.2 :=
  zCT_of (by decide) (Nat.le_of_ble_eq_true rfl) (zk_k (zk_i zk_0)) rfl (wX10_keep hd h (fun r e => ⟨by rw [e], by rw [e]⟩))
def fX10_moves_41_38_L3 (v1 : Int32) (v3 : Int32) (s : (Int32 × zM)) : Option ((Int32 × zM) ⊕ (zM ⊕ Empty)) :=
  if 1357 ≤ s.1 then (some (.inr (.inl s.2))) else (zob (zin ((v1 + s.1)) 2714) (zob (zin ((v3 + s.1)) 1357) (some (.inl ((s.1 + 1), (wi s.2 38 0 (zn ((v3 + s.1))) ((gi s.2 41 0 (zn ((v1 + s.1)))))))))))
def fX10_moves_41_38 (v1 : Int32) (v3 : Int32) (mm : zM) : Option zM :=
  (zloop (fX10_moves_41_38_L3 v1 v3) zF (0, mm)).bind (fun o3 => zcase o3 (fun y1 => some y1) (fun r2 => r2.elim))
theorem wX10_moves_41_38_L3 {E : zE} {d : Nat} (hd : 0 ≤ d) {Q : Option zV → zM → Prop} {v1 : Int32} {v3 : Int32} {n : Nat} {s : (Int32 × zM)} {o : zM ⊕ Empty} (h : zloop (fX10_moves_41_38_L3 v1 v3) n s = some o) (he : ∀ y : zM, o = .inl y → V E RX10 cX10_moves 5 none d Q 29 [none, none, none, none, none] [] y) : V E RX10 cX10_moves 5 none d Q 3 [some (zK 41 0), some (zI v1), some (zK 38 0), some (zI v3), some (zI s.1)] [] s.2 := by
  induction n generalizing s with
  | zero => exact (zloop_0 h).elim
  | succ n ih =>
    obtain ⟨o1, h1, hc1, he1⟩ := zloop_s h
    have kc : ∀ s' : (Int32 × zM), o1 = .inl s' → V E RX10 cX10_moves 5 none d Q 3 [some (zK 41 0), some (zI v1), some (zK 38 0), some (zI v3), some (zI s'.1)] [] s'.2 := fun s' e => ih (hc1 s' e)
    have ke : ∀ y : zM, o1 = .inr (.inl y) → V E RX10 cX10_moves 5 none d Q 29 [none, none, none, none, none] [] y := fun y e => he y (he1 _ e)
    clear h hc1 he1 ih
    have h := h1
    clear h1
    unfold fX10_moves_41_38_L3 at h
    refine V_iload 5 rfl dX10_moves_3 rfl ?_
    refine V_sipush 8 rfl (v := 1357) dX10_moves_5 (by decide) ?_
    refine V_icmp_ge 11 29 rfl dX10_moves_8 (by decide) (fun c => ?_) (fun c => ?_)
    · have h := zpos c h
      exact V_w (zsub_n (zsub_n (zsub_n (zsub_n (zsub_n zsub_0))))) (ke s.2 (zinj h))
    · have h := zneg c h
      refine V_aload_n 12 rfl 2 dX10_moves_11 rfl rfl ?_
      refine V_iload_n 13 rfl 3 dX10_moves_12 rfl rfl ?_
      refine V_iload 15 rfl dX10_moves_13 rfl ?_
      refine V_iadd 16 rfl dX10_moves_15 ?_
      refine V_aload_n 17 rfl 0 dX10_moves_16 rfl rfl ?_
      refine V_iload_n 18 rfl 1 dX10_moves_17 rfl rfl ?_
      refine V_iload 20 rfl dX10_moves_18 rfl ?_
      refine V_iadd 21 rfl dX10_moves_20 ?_
      obtain ⟨hi, h⟩ := zobd h
      refine V_iald 22 rfl dX10_moves_21 rfl hi ?_
      obtain ⟨hi, h⟩ := zobd h
      refine V_iast 23 rfl dX10_moves_22 rfl hi ?_
      refine V_iinc 26 rfl (s.1 + 1) (L' := [some (zK 41 0), some (zI v1), some (zK 38 0), some (zI v3), some (zI (s.1 + 1))]) dX10_moves_23 rfl rfl (by decide) rfl ?_
      refine V_goto 3 dX10_moves_26 (by decide) ?_
      exact kc ((s.1 + 1), (wi s.2 38 0 (zn ((v3 + s.1))) ((gi s.2 41 0 (zn ((v1 + s.1))))))) (zinj h)
theorem wX10_moves_41_38 {E : zE} {d : Nat} (hd : 0 ≤ d) {Q : Option zV → zM → Prop} {v1 : Int32} {v3 : Int32} {mm : zM} {o : zM} (h : fX10_moves_41_38 v1 v3 mm = some o) (hQ : ∀ r, o = r → Q none r) : V E RX10 cX10_moves 5 none d Q 0 [some (zK 41 0), some (zI v1), some (zK 38 0), some (zI v3), none] [] mm := by
  unfold fX10_moves_41_38 at h
  refine V_iconst 1 rfl (v := 0) dX10_moves_0 (by decide) ?_
  refine V_istore 3 rfl (L' := [some (zK 41 0), some (zI v1), some (zK 38 0), some (zI v3), some (zI 0)]) dX10_moves_1 (by decide) rfl ?_
  obtain ⟨o3, h1, h⟩ := zbd h
  refine wX10_moves_41_38_L3 hd h1 (fun y1 e => ?_)
  have h := zcl_ e h
  exact V_vret dX10_moves_29 rfl (hQ y1 (zinj h))
theorem ctX10_moves_41_38 {E : zE} {d : Nat} (hd : 0 ≤ d) {v1 : Int32} {v3 : Int32} {mm : zM} {o : zM} (h : fX10_moves_41_38 v1 v3 mm = some o) : zOC E yX10_moves cX10_moves 5 none d [zK 41 0, zI v1, zK 38 0, zI v3] mm none o :=
  zCT_of (by decide) (Nat.le_of_ble_eq_true rfl) (zk_k (zk_i (zk_k (zk_i zk_0)))) rfl (wX10_moves_41_38 hd h (fun r e => ⟨rfl, by rw [e]⟩))
def fX10_back (v1 : Int32) (mm : zM) : Option (Int32 × zM) :=
  (fX10_in v1 0 1 mm).bind (fun x1 => if x1 = 0 then (some (((-1), mm))) else (zob (zin v1 2) (if (gi mm 42 0 (zn v1)) = 0 then (some (((-2), mm))) else ((fX10_moves_41_38 ((1357 * v1)) 0 mm).bind (fun x2 => some (((gi ((wi x2 10 0 5 0)) 38 0 (zn 1356)), (wi x2 10 0 5 0))))))))
theorem wX10_back {E : zE} {d : Nat} (hd : 1 ≤ d) {Q : Option zV → zM → Prop} {v1 : Int32} {mm : zM} {o : (Int32 × zM)} (h : fX10_back v1 mm = some o) (hQ : ∀ r, o = r → Q (some (zI r.1)) r.2) : V E RX10 cX10_back 2 (some .int) d Q 0 [some (zK 10 0), some (zI v1)] [] mm := by
  unfold fX10_back at h
  refine V_iload_n 1 rfl 1 dX10_back_0 rfl rfl ?_
  refine V_iconst 2 rfl (v := 0) dX10_back_1 (by decide) ?_
  refine V_iconst 3 rfl (v := 1) dX10_back_2 (by decide) ?_
  obtain ⟨x1, h1, h⟩ := zbd h
  refine V_cS 6 rfl 0 [zI v1, zI 0, zI 1] [] dX10_back_3 cs_X10_88 (ctX10_in (Nat.le_refl 0) h1) (Nat.le_trans (by decide) hd) rfl rfl (Nat.le_of_ble_eq_true rfl) zoki rfl ?_
  refine V_if_ne 9 11 rfl dX10_back_6 (by decide) (fun c => ?_) (fun c => ?_)
  · have h := zneg c h
    refine V_aload_n 12 rfl 0 dX10_back_11 rfl rfl ?_
    refine V_getr 15 rfl 42 0 dX10_back_12 fl_X10_24 rfl rfl rfl ?_
    refine V_iload_n 16 rfl 1 dX10_back_15 rfl rfl ?_
    obtain ⟨hi, h⟩ := zobd h
    refine V_zald 17 rfl dX10_back_16 rfl hi ?_
    refine V_if_ne 20 23 rfl dX10_back_17 (by decide) (fun c => ?_) (fun c => ?_)
    · have h := zneg c h
      refine V_aload_n 24 rfl 0 dX10_back_23 rfl rfl ?_
      refine V_getr 27 rfl 41 0 dX10_back_24 fl_X10_21 rfl rfl rfl ?_
      refine V_sipush 30 rfl (v := 1357) dX10_back_27 (by decide) ?_
      refine V_iload_n 31 rfl 1 dX10_back_30 rfl rfl ?_
      refine V_imul 32 rfl dX10_back_31 ?_
      refine V_aload_n 33 rfl 0 dX10_back_32 rfl rfl ?_
      refine V_getr 36 rfl 38 0 dX10_back_33 fl_X10_11 rfl rfl rfl ?_
      refine V_iconst 37 rfl (v := 0) dX10_back_36 (by decide) ?_
      obtain ⟨x2, h1, h⟩ := zbd h
      refine V_cS 40 rfl 0 [zK 41 0, zI (1357 * v1), zK 38 0, zI 0] [] dX10_back_37 cs_X10_194 (ctX10_moves_41_38 (Nat.le_refl 0) h1) (Nat.le_trans (by decide) hd) rfl rfl (Nat.le_of_ble_eq_true rfl) zokn rfl ?_
      refine V_aload_n 41 rfl 0 dX10_back_40 rfl rfl ?_
      refine V_iconst 42 rfl (v := 0) dX10_back_41 (by decide) ?_
      refine V_puti 45 rfl dX10_back_42 fw_X10_198 rfl rfl rfl ?_
      refine V_aload_n 46 rfl 0 dX10_back_45 rfl rfl ?_
      refine V_getr 49 rfl 38 0 dX10_back_46 fl_X10_11 rfl rfl rfl ?_
      refine V_sipush 52 rfl (v := 1356) dX10_back_49 (by decide) ?_
      refine V_iald 53 rfl dX10_back_52 rfl (by decide) ?_
      exact V_iret dX10_back_53 rfl (hQ (((gi ((wi x2 10 0 5 0)) 38 0 (zn 1356)), (wi x2 10 0 5 0))) (zinj h))
    · have h := zpos c h
      refine V_bipush 22 rfl (v := (-2)) dX10_back_20 (by decide) ?_
      exact V_iret dX10_back_22 rfl (hQ (((-2), mm)) (zinj h))
  · have h := zpos c h
    refine V_iconst 10 rfl (v := (-1)) dX10_back_9 (by decide) ?_
    exact V_iret dX10_back_10 rfl (hQ (((-1), mm)) (zinj h))
theorem ctX10_back {E : zE} {d : Nat} (hd : 1 ≤ d) {v1 : Int32} {mm : zM} {o : (Int32 × zM)} (h : fX10_back v1 mm = some o) : zOC E yX10_back cX10_back 2 (some .int) d [zK 10 0, zI v1] mm (some (zI o.1)) o.2 :=
  zCT_of (by decide) (Nat.le_of_ble_eq_true rfl) (zk_k (zk_i zk_0)) rfl (wX10_back hd h (fun r e => ⟨by rw [e], by rw [e]⟩))
def fX10_flatAt (v0 : Int32) (v1 : Int32) (mm : zM) : Option Int32 :=
  some ((5 * ((((26 * v0)) + v1))))
theorem wX10_flatAt {E : zE} {d : Nat} (hd : 0 ≤ d) {Q : Option zV → zM → Prop} {v0 : Int32} {v1 : Int32} {mm : zM} {o : Int32} (h : fX10_flatAt v0 v1 mm = some o) (hQ : ∀ r, o = r → Q (some (zI r)) mm) : V E RX10 cX10_flatAt 2 (some .int) d Q 0 [some (zI v0), some (zI v1)] [] mm := by
  unfold fX10_flatAt at h
  refine V_iconst 1 rfl (v := 5) dX10_flatAt_0 (by decide) ?_
  refine V_bipush 3 rfl (v := 26) dX10_flatAt_1 (by decide) ?_
  refine V_iload_n 4 rfl 0 dX10_flatAt_3 rfl rfl ?_
  refine V_imul 5 rfl dX10_flatAt_4 ?_
  refine V_iload_n 6 rfl 1 dX10_flatAt_5 rfl rfl ?_
  refine V_iadd 7 rfl dX10_flatAt_6 ?_
  refine V_imul 8 rfl dX10_flatAt_7 ?_
  exact V_iret dX10_flatAt_8 rfl (hQ ((5 * ((((26 * v0)) + v1)))) (zinj h))
theorem ctX10_flatAt {E : zE} {d : Nat} (hd : 0 ≤ d) {v0 : Int32} {v1 : Int32} {mm : zM} {o : Int32} (h : fX10_flatAt v0 v1 mm = some o) : zOC E yX10_flatAt cX10_flatAt 2 (some .int) d [zI v0, zI v1] mm (some (zI o)) mm :=
  zCT_of (by decide) (Nat.le_of_ble_eq_true rfl) (zk_i (zk_i zk_0)) rfl (wX10_flatAt hd h (fun r e => ⟨by rw [e], rfl⟩))
def fX10_gives_J19 (v1 : Int32) (v2 : Int32) (v3 : Int32) (mm : zM) : Option zM :=
  zob (zin v1 1560) (zob (zin ((v1 + 1)) 1560) (zob (zin ((v1 + 2)) 1560) (some ((wi ((wi ((wi mm 44 0 (zn v1) 1)) 44 0 (zn ((v1 + 1))) v2)) 44 0 (zn ((v1 + 2))) v3)))))
def fX10_gives_J74 (v1 : Int32) (v2 : Int32) (v3 : Int32) (s0 : Int32) (mm : zM) : Option zM :=
  if s0 = 0 then (zob (zin v1 1560) (if (gi mm 44 0 (zn v1)) = 1 then (zob (zin v1 1560) (zob (zin ((v1 + 3)) 1560) (zob (zin ((v1 + 4)) 1560) (some ((wi ((wi ((wi mm 44 0 (zn v1) 3)) 44 0 (zn ((v1 + 3))) v2)) 44 0 (zn ((v1 + 4))) v3)))))) else (some mm))) else (some mm)
def fX10_gives_J73 (v1 : Int32) (v2 : Int32) (v3 : Int32) (mm : zM) : Option zM :=
  fX10_gives_J74 v1 v2 v3 0 mm
def fX10_gives (v1 : Int32) (v2 : Int32) (v3 : Int32) (mm : zM) : Option zM :=
  zob (zin v1 1560) (if (gi mm 44 0 (zn v1)) = 0 then (fX10_gives_J19 v1 v2 v3 mm) else (zob (zin v1 1560) (if (gi mm 44 0 (zn v1)) = 2 then (fX10_gives_J19 v1 v2 v3 mm) else (zob (zin ((v1 + 1)) 1560) (if (gi mm 44 0 (zn ((v1 + 1)))) = v2 then (zob (zin ((v1 + 2)) 1560) (if (gi mm 44 0 (zn ((v1 + 2)))) = v3 then (fX10_gives_J74 v1 v2 v3 1 mm) else (fX10_gives_J73 v1 v2 v3 mm))) else (fX10_gives_J73 v1 v2 v3 mm))))))
theorem wX10_gives_J19 {E : zE} {d : Nat} (hd : 0 ≤ d) {Q : Option zV → zM → Prop} {v1 : Int32} {v2 : Int32} {v3 : Int32} {mm : zM} {o : zM} (h : fX10_gives_J19 v1 v2 v3 mm = some o) (hQ : ∀ r, o = r → Q none r) : V E RX10 cX10_gives 5 none d Q 19 [some (zK 10 0), some (zI v1), some (zI v2), some (zI v3), none] [] mm := by
  unfold fX10_gives_J19 at h
  refine V_aload_n 20 rfl 0 dX10_gives_19 rfl rfl ?_
  refine V_getr 23 rfl 44 0 dX10_gives_20 fl_X10_32 rfl rfl rfl ?_
  refine V_iload_n 24 rfl 1 dX10_gives_23 rfl rfl ?_
  refine V_iconst 25 rfl (v := 1) dX10_gives_24 (by decide) ?_
  obtain ⟨hi, h⟩ := zobd h
  refine V_iast 26 rfl dX10_gives_25 rfl hi ?_
  refine V_aload_n 27 rfl 0 dX10_gives_26 rfl rfl ?_
  refine V_getr 30 rfl 44 0 dX10_gives_27 fl_X10_32 rfl rfl rfl ?_
  refine V_iload_n 31 rfl 1 dX10_gives_30 rfl rfl ?_
  refine V_iconst 32 rfl (v := 1) dX10_gives_31 (by decide) ?_
  refine V_iadd 33 rfl dX10_gives_32 ?_
  refine V_iload_n 34 rfl 2 dX10_gives_33 rfl rfl ?_
  obtain ⟨hi, h⟩ := zobd h
  refine V_iast 35 rfl dX10_gives_34 rfl hi ?_
  refine V_aload_n 36 rfl 0 dX10_gives_35 rfl rfl ?_
  refine V_getr 39 rfl 44 0 dX10_gives_36 fl_X10_32 rfl rfl rfl ?_
  refine V_iload_n 40 rfl 1 dX10_gives_39 rfl rfl ?_
  refine V_iconst 41 rfl (v := 2) dX10_gives_40 (by decide) ?_
  refine V_iadd 42 rfl dX10_gives_41 ?_
  refine V_iload_n 43 rfl 3 dX10_gives_42 rfl rfl ?_
  obtain ⟨hi, h⟩ := zobd h
  refine V_iast 44 rfl dX10_gives_43 rfl hi ?_
  exact V_vret dX10_gives_44 rfl (hQ ((wi ((wi ((wi mm 44 0 (zn v1) 1)) 44 0 (zn ((v1 + 1))) v2)) 44 0 (zn ((v1 + 2))) v3)) (zinj h))
theorem wX10_gives_J74 {E : zE} {d : Nat} (hd : 0 ≤ d) {Q : Option zV → zM → Prop} {v1 : Int32} {v2 : Int32} {v3 : Int32} {s0 : Int32} {mm : zM} {o : zM} (h : fX10_gives_J74 v1 v2 v3 s0 mm = some o) (hQ : ∀ r, o = r → Q none r) : V E RX10 cX10_gives 5 none d Q 74 [some (zK 10 0), some (zI v1), some (zI v2), some (zI v3), none] [zI s0] mm := by
  unfold fX10_gives_J74 at h
  refine V_istore 76 rfl (L' := [some (zK 10 0), some (zI v1), some (zI v2), some (zI v3), some (zI s0)]) dX10_gives_74 (by decide) rfl ?_
  refine V_iload 78 rfl dX10_gives_76 rfl ?_
  refine V_if_ne 81 116 rfl dX10_gives_78 (by decide) (fun c => ?_) (fun c => ?_)
  · have h := zneg c h
    exact V_vret dX10_gives_116 rfl (hQ mm (zinj h))
  · have h := zpos c h
    refine V_aload_n 82 rfl 0 dX10_gives_81 rfl rfl ?_
    refine V_getr 85 rfl 44 0 dX10_gives_82 fl_X10_32 rfl rfl rfl ?_
    refine V_iload_n 86 rfl 1 dX10_gives_85 rfl rfl ?_
    obtain ⟨hi, h⟩ := zobd h
    refine V_iald 87 rfl dX10_gives_86 rfl hi ?_
    refine V_iconst 88 rfl (v := 1) dX10_gives_87 (by decide) ?_
    refine V_icmp_ne 91 116 rfl dX10_gives_88 (by decide) (fun c => ?_) (fun c => ?_)
    · have h := zneg c h
      exact V_vret dX10_gives_116 rfl (hQ mm (zinj h))
    · have h := zpos c h
      refine V_aload_n 92 rfl 0 dX10_gives_91 rfl rfl ?_
      refine V_getr 95 rfl 44 0 dX10_gives_92 fl_X10_32 rfl rfl rfl ?_
      refine V_iload_n 96 rfl 1 dX10_gives_95 rfl rfl ?_
      refine V_iconst 97 rfl (v := 3) dX10_gives_96 (by decide) ?_
      obtain ⟨hi, h⟩ := zobd h
      refine V_iast 98 rfl dX10_gives_97 rfl hi ?_
      refine V_aload_n 99 rfl 0 dX10_gives_98 rfl rfl ?_
      refine V_getr 102 rfl 44 0 dX10_gives_99 fl_X10_32 rfl rfl rfl ?_
      refine V_iload_n 103 rfl 1 dX10_gives_102 rfl rfl ?_
      refine V_iconst 104 rfl (v := 3) dX10_gives_103 (by decide) ?_
      refine V_iadd 105 rfl dX10_gives_104 ?_
      refine V_iload_n 106 rfl 2 dX10_gives_105 rfl rfl ?_
      obtain ⟨hi, h⟩ := zobd h
      refine V_iast 107 rfl dX10_gives_106 rfl hi ?_
      refine V_aload_n 108 rfl 0 dX10_gives_107 rfl rfl ?_
      refine V_getr 111 rfl 44 0 dX10_gives_108 fl_X10_32 rfl rfl rfl ?_
      refine V_iload_n 112 rfl 1 dX10_gives_111 rfl rfl ?_
      refine V_iconst 113 rfl (v := 4) dX10_gives_112 (by decide) ?_
      refine V_iadd 114 rfl dX10_gives_113 ?_
      refine V_iload_n 115 rfl 3 dX10_gives_114 rfl rfl ?_
      obtain ⟨hi, h⟩ := zobd h
      refine V_iast 116 rfl dX10_gives_115 rfl hi ?_
      exact V_vret dX10_gives_116 rfl (hQ ((wi ((wi ((wi mm 44 0 (zn v1) 3)) 44 0 (zn ((v1 + 3))) v2)) 44 0 (zn ((v1 + 4))) v3)) (zinj h))
theorem wX10_gives_J73 {E : zE} {d : Nat} (hd : 0 ≤ d) {Q : Option zV → zM → Prop} {v1 : Int32} {v2 : Int32} {v3 : Int32} {mm : zM} {o : zM} (h : fX10_gives_J73 v1 v2 v3 mm = some o) (hQ : ∀ r, o = r → Q none r) : V E RX10 cX10_gives 5 none d Q 73 [some (zK 10 0), some (zI v1), some (zI v2), some (zI v3), none] [] mm := by
  unfold fX10_gives_J73 at h
  refine V_iconst 74 rfl (v := 0) dX10_gives_73 (by decide) ?_
  exact wX10_gives_J74 hd h hQ
theorem wX10_gives {E : zE} {d : Nat} (hd : 0 ≤ d) {Q : Option zV → zM → Prop} {v1 : Int32} {v2 : Int32} {v3 : Int32} {mm : zM} {o : zM} (h : fX10_gives v1 v2 v3 mm = some o) (hQ : ∀ r, o = r → Q none r) : V E RX10 cX10_gives 5 none d Q 0 [some (zK 10 0), some (zI v1), some (zI v2), some (zI v3), none] [] mm := by
  unfold fX10_gives at h
  refine V_aload_n 1 rfl 0 dX10_gives_0 rfl rfl ?_
  refine V_getr 4 rfl 44 0 dX10_gives_1 fl_X10_32 rfl rfl rfl ?_
  refine V_iload_n 5 rfl 1 dX10_gives_4 rfl rfl ?_
  obtain ⟨hi, h⟩ := zobd h
  refine V_iald 6 rfl dX10_gives_5 rfl hi ?_
  refine V_if_eq 9 19 rfl dX10_gives_6 (by decide) (fun c => ?_) (fun c => ?_)
  · have h := zpos c h
    exact wX10_gives_J19 hd h hQ
  · have h := zneg c h
    refine V_aload_n 10 rfl 0 dX10_gives_9 rfl rfl ?_
    refine V_getr 13 rfl 44 0 dX10_gives_10 fl_X10_32 rfl rfl rfl ?_
    refine V_iload_n 14 rfl 1 dX10_gives_13 rfl rfl ?_
    obtain ⟨hi, h⟩ := zobd h
    refine V_iald 15 rfl dX10_gives_14 rfl hi ?_
    refine V_iconst 16 rfl (v := 2) dX10_gives_15 (by decide) ?_
    refine V_icmp_ne 19 45 rfl dX10_gives_16 (by decide) (fun c => ?_) (fun c => ?_)
    · have h := zneg c h
      refine V_aload_n 46 rfl 0 dX10_gives_45 rfl rfl ?_
      refine V_getr 49 rfl 44 0 dX10_gives_46 fl_X10_32 rfl rfl rfl ?_
      refine V_iload_n 50 rfl 1 dX10_gives_49 rfl rfl ?_
      refine V_iconst 51 rfl (v := 1) dX10_gives_50 (by decide) ?_
      refine V_iadd 52 rfl dX10_gives_51 ?_
      obtain ⟨hi, h⟩ := zobd h
      refine V_iald 53 rfl dX10_gives_52 rfl hi ?_
      refine V_iload_n 54 rfl 2 dX10_gives_53 rfl rfl ?_
      refine V_icmp_ne 57 73 rfl dX10_gives_54 (by decide) (fun c => ?_) (fun c => ?_)
      · have h := zneg c h
        exact wX10_gives_J73 hd h hQ
      · have h := zpos c h
        refine V_aload_n 58 rfl 0 dX10_gives_57 rfl rfl ?_
        refine V_getr 61 rfl 44 0 dX10_gives_58 fl_X10_32 rfl rfl rfl ?_
        refine V_iload_n 62 rfl 1 dX10_gives_61 rfl rfl ?_
        refine V_iconst 63 rfl (v := 2) dX10_gives_62 (by decide) ?_
        refine V_iadd 64 rfl dX10_gives_63 ?_
        obtain ⟨hi, h⟩ := zobd h
        refine V_iald 65 rfl dX10_gives_64 rfl hi ?_
        refine V_iload_n 66 rfl 3 dX10_gives_65 rfl rfl ?_
        refine V_icmp_ne 69 73 rfl dX10_gives_66 (by decide) (fun c => ?_) (fun c => ?_)
        · have h := zneg c h
          exact wX10_gives_J73 hd h hQ
        · have h := zpos c h
          refine V_iconst 70 rfl (v := 1) dX10_gives_69 (by decide) ?_
          refine V_goto 74 dX10_gives_70 (by decide) ?_
          exact wX10_gives_J74 hd h hQ
    · have h := zpos c h
      exact wX10_gives_J19 hd h hQ
theorem ctX10_gives {E : zE} {d : Nat} (hd : 0 ≤ d) {v1 : Int32} {v2 : Int32} {v3 : Int32} {mm : zM} {o : zM} (h : fX10_gives v1 v2 v3 mm = some o) : zOC E yX10_gives cX10_gives 5 none d [zK 10 0, zI v1, zI v2, zI v3] mm none o :=
  zCT_of (by decide) (Nat.le_of_ble_eq_true rfl) (zk_k (zk_i (zk_i (zk_i zk_0)))) rfl (wX10_gives hd h (fun r e => ⟨rfl, by rw [e]⟩))
def fX10_givesAll_J67 (v1 : Int32) (v2 : Int32) (mm : zM) : Option zM :=
  zob (zin v2 1560) (if (gi mm 44 0 (zn v2)) = 3 then (zob (zin ((v2 + 3)) 1560) (zob (zin ((v2 + 4)) 1560) ((fX10_gives v1 ((gi mm 44 0 (zn ((v2 + 3))))) ((gi mm 44 0 (zn ((v2 + 4))))) mm).bind (fun x2 => some x2)))) else (some mm))
def fX10_givesAll_J46 (v1 : Int32) (v2 : Int32) (mm : zM) : Option zM :=
  zob (zin ((v2 + 1)) 1560) (zob (zin ((v2 + 2)) 1560) ((fX10_gives v1 ((gi mm 44 0 (zn ((v2 + 1))))) ((gi mm 44 0 (zn ((v2 + 2))))) mm).bind (fun x1 => fX10_givesAll_J67 v1 v2 x1)))
def fX10_givesAll_J26 (v1 : Int32) (v2 : Int32) (mm : zM) : Option zM :=
  zob (zin v2 1560) (if (gi mm 44 0 (zn v2)) = 1 then (fX10_givesAll_J46 v1 v2 mm) else (zob (zin v2 1560) (if (gi mm 44 0 (zn v2)) = 3 then (fX10_givesAll_J46 v1 v2 mm) else (fX10_givesAll_J67 v1 v2 mm))))
def fX10_givesAll (v1 : Int32) (v2 : Int32) (mm : zM) : Option zM :=
  zob (zin v2 1560) (if (gi mm 44 0 (zn v2)) = 2 then (zob (zin v1 1560) (if (gi mm 44 0 (zn v1)) = 0 then (zob (zin v1 1560) (fX10_givesAll_J26 v1 v2 ((wi mm 44 0 (zn v1) 2)))) else (fX10_givesAll_J26 v1 v2 mm))) else (fX10_givesAll_J26 v1 v2 mm))
theorem wX10_givesAll_J67 {E : zE} {d : Nat} (hd : 1 ≤ d) {Q : Option zV → zM → Prop} {v1 : Int32} {v2 : Int32} {mm : zM} {o : zM} (h : fX10_givesAll_J67 v1 v2 mm = some o) (hQ : ∀ r, o = r → Q none r) : V E RX10 cX10_givesAll 3 none d Q 67 [some (zK 10 0), some (zI v1), some (zI v2)] [] mm := by
  unfold fX10_givesAll_J67 at h
  refine V_aload_n 68 rfl 0 dX10_givesAll_67 rfl rfl ?_
  refine V_getr 71 rfl 44 0 dX10_givesAll_68 fl_X10_32 rfl rfl rfl ?_
  refine V_iload_n 72 rfl 2 dX10_givesAll_71 rfl rfl ?_
  obtain ⟨hi, h⟩ := zobd h
  refine V_iald 73 rfl dX10_givesAll_72 rfl hi ?_
  refine V_iconst 74 rfl (v := 3) dX10_givesAll_73 (by decide) ?_
  refine V_icmp_ne 77 98 rfl dX10_givesAll_74 (by decide) (fun c => ?_) (fun c => ?_)
  · have h := zneg c h
    exact V_vret dX10_givesAll_98 rfl (hQ mm (zinj h))
  · have h := zpos c h
    refine V_aload_n 78 rfl 0 dX10_givesAll_77 rfl rfl ?_
    refine V_iload_n 79 rfl 1 dX10_givesAll_78 rfl rfl ?_
    refine V_aload_n 80 rfl 0 dX10_givesAll_79 rfl rfl ?_
    refine V_getr 83 rfl 44 0 dX10_givesAll_80 fl_X10_32 rfl rfl rfl ?_
    refine V_iload_n 84 rfl 2 dX10_givesAll_83 rfl rfl ?_
    refine V_iconst 85 rfl (v := 3) dX10_givesAll_84 (by decide) ?_
    refine V_iadd 86 rfl dX10_givesAll_85 ?_
    obtain ⟨hi, h⟩ := zobd h
    refine V_iald 87 rfl dX10_givesAll_86 rfl hi ?_
    refine V_aload_n 88 rfl 0 dX10_givesAll_87 rfl rfl ?_
    refine V_getr 91 rfl 44 0 dX10_givesAll_88 fl_X10_32 rfl rfl rfl ?_
    refine V_iload_n 92 rfl 2 dX10_givesAll_91 rfl rfl ?_
    refine V_iconst 93 rfl (v := 4) dX10_givesAll_92 (by decide) ?_
    refine V_iadd 94 rfl dX10_givesAll_93 ?_
    obtain ⟨hi, h⟩ := zobd h
    refine V_iald 95 rfl dX10_givesAll_94 rfl hi ?_
    obtain ⟨x2, h1, h⟩ := zbd h
    refine V_cV 98 rfl 0 [zI v1, zI (gi mm 44 0 (zn ((v2 + 3)))), zI (gi mm 44 0 (zn ((v2 + 4))))] [] dX10_givesAll_95 cv_X10_219 (ctX10_gives (Nat.le_refl 0) h1) (Nat.le_trans (by decide) hd) rfl rfl (Nat.le_of_ble_eq_true rfl) zokn rfl ?_
    exact V_vret dX10_givesAll_98 rfl (hQ x2 (zinj h))
theorem wX10_givesAll_J46 {E : zE} {d : Nat} (hd : 1 ≤ d) {Q : Option zV → zM → Prop} {v1 : Int32} {v2 : Int32} {mm : zM} {o : zM} (h : fX10_givesAll_J46 v1 v2 mm = some o) (hQ : ∀ r, o = r → Q none r) : V E RX10 cX10_givesAll 3 none d Q 46 [some (zK 10 0), some (zI v1), some (zI v2)] [] mm := by
  unfold fX10_givesAll_J46 at h
  refine V_aload_n 47 rfl 0 dX10_givesAll_46 rfl rfl ?_
  refine V_iload_n 48 rfl 1 dX10_givesAll_47 rfl rfl ?_
  refine V_aload_n 49 rfl 0 dX10_givesAll_48 rfl rfl ?_
  refine V_getr 52 rfl 44 0 dX10_givesAll_49 fl_X10_32 rfl rfl rfl ?_
  refine V_iload_n 53 rfl 2 dX10_givesAll_52 rfl rfl ?_
  refine V_iconst 54 rfl (v := 1) dX10_givesAll_53 (by decide) ?_
  refine V_iadd 55 rfl dX10_givesAll_54 ?_
  obtain ⟨hi, h⟩ := zobd h
  refine V_iald 56 rfl dX10_givesAll_55 rfl hi ?_
  refine V_aload_n 57 rfl 0 dX10_givesAll_56 rfl rfl ?_
  refine V_getr 60 rfl 44 0 dX10_givesAll_57 fl_X10_32 rfl rfl rfl ?_
  refine V_iload_n 61 rfl 2 dX10_givesAll_60 rfl rfl ?_
  refine V_iconst 62 rfl (v := 2) dX10_givesAll_61 (by decide) ?_
  refine V_iadd 63 rfl dX10_givesAll_62 ?_
  obtain ⟨hi, h⟩ := zobd h
  refine V_iald 64 rfl dX10_givesAll_63 rfl hi ?_
  obtain ⟨x1, h1, h⟩ := zbd h
  refine V_cV 67 rfl 0 [zI v1, zI (gi mm 44 0 (zn ((v2 + 1)))), zI (gi mm 44 0 (zn ((v2 + 2))))] [] dX10_givesAll_64 cv_X10_219 (ctX10_gives (Nat.le_refl 0) h1) (Nat.le_trans (by decide) hd) rfl rfl (Nat.le_of_ble_eq_true rfl) zokn rfl ?_
  exact wX10_givesAll_J67 hd h hQ
theorem wX10_givesAll_J26 {E : zE} {d : Nat} (hd : 1 ≤ d) {Q : Option zV → zM → Prop} {v1 : Int32} {v2 : Int32} {mm : zM} {o : zM} (h : fX10_givesAll_J26 v1 v2 mm = some o) (hQ : ∀ r, o = r → Q none r) : V E RX10 cX10_givesAll 3 none d Q 26 [some (zK 10 0), some (zI v1), some (zI v2)] [] mm := by
  unfold fX10_givesAll_J26 at h
  refine V_aload_n 27 rfl 0 dX10_givesAll_26 rfl rfl ?_
  refine V_getr 30 rfl 44 0 dX10_givesAll_27 fl_X10_32 rfl rfl rfl ?_
  refine V_iload_n 31 rfl 2 dX10_givesAll_30 rfl rfl ?_
  obtain ⟨hi, h⟩ := zobd h
  refine V_iald 32 rfl dX10_givesAll_31 rfl hi ?_
  refine V_iconst 33 rfl (v := 1) dX10_givesAll_32 (by decide) ?_
  refine V_icmp_eq 36 46 rfl dX10_givesAll_33 (by decide) (fun c => ?_) (fun c => ?_)
  · have h := zpos c h
    exact wX10_givesAll_J46 hd h hQ
  · have h := zneg c h
    refine V_aload_n 37 rfl 0 dX10_givesAll_36 rfl rfl ?_
    refine V_getr 40 rfl 44 0 dX10_givesAll_37 fl_X10_32 rfl rfl rfl ?_
    refine V_iload_n 41 rfl 2 dX10_givesAll_40 rfl rfl ?_
    obtain ⟨hi, h⟩ := zobd h
    refine V_iald 42 rfl dX10_givesAll_41 rfl hi ?_
    refine V_iconst 43 rfl (v := 3) dX10_givesAll_42 (by decide) ?_
    refine V_icmp_ne 46 67 rfl dX10_givesAll_43 (by decide) (fun c => ?_) (fun c => ?_)
    · have h := zneg c h
      exact wX10_givesAll_J67 hd h hQ
    · have h := zpos c h
      exact wX10_givesAll_J46 hd h hQ
theorem wX10_givesAll {E : zE} {d : Nat} (hd : 1 ≤ d) {Q : Option zV → zM → Prop} {v1 : Int32} {v2 : Int32} {mm : zM} {o : zM} (h : fX10_givesAll v1 v2 mm = some o) (hQ : ∀ r, o = r → Q none r) : V E RX10 cX10_givesAll 3 none d Q 0 [some (zK 10 0), some (zI v1), some (zI v2)] [] mm := by
  unfold fX10_givesAll at h
  refine V_aload_n 1 rfl 0 dX10_givesAll_0 rfl rfl ?_
  refine V_getr 4 rfl 44 0 dX10_givesAll_1 fl_X10_32 rfl rfl rfl ?_
  refine V_iload_n 5 rfl 2 dX10_givesAll_4 rfl rfl ?_
  obtain ⟨hi, h⟩ := zobd h
  refine V_iald 6 rfl dX10_givesAll_5 rfl hi ?_
  refine V_iconst 7 rfl (v := 2) dX10_givesAll_6 (by decide) ?_
  refine V_icmp_ne 10 26 rfl dX10_givesAll_7 (by decide) (fun c => ?_) (fun c => ?_)
  · have h := zneg c h
    exact wX10_givesAll_J26 hd h hQ
  · have h := zpos c h
    refine V_aload_n 11 rfl 0 dX10_givesAll_10 rfl rfl ?_
    refine V_getr 14 rfl 44 0 dX10_givesAll_11 fl_X10_32 rfl rfl rfl ?_
    refine V_iload_n 15 rfl 1 dX10_givesAll_14 rfl rfl ?_
    obtain ⟨hi, h⟩ := zobd h
    refine V_iald 16 rfl dX10_givesAll_15 rfl hi ?_
    refine V_if_ne 19 26 rfl dX10_givesAll_16 (by decide) (fun c => ?_) (fun c => ?_)
    · have h := zneg c h
      exact wX10_givesAll_J26 hd h hQ
    · have h := zpos c h
      refine V_aload_n 20 rfl 0 dX10_givesAll_19 rfl rfl ?_
      refine V_getr 23 rfl 44 0 dX10_givesAll_20 fl_X10_32 rfl rfl rfl ?_
      refine V_iload_n 24 rfl 1 dX10_givesAll_23 rfl rfl ?_
      refine V_iconst 25 rfl (v := 2) dX10_givesAll_24 (by decide) ?_
      obtain ⟨hi, h⟩ := zobd h
      refine V_iast 26 rfl dX10_givesAll_25 rfl hi ?_
      exact wX10_givesAll_J26 hd h hQ
theorem ctX10_givesAll {E : zE} {d : Nat} (hd : 1 ≤ d) {v1 : Int32} {v2 : Int32} {mm : zM} {o : zM} (h : fX10_givesAll v1 v2 mm = some o) : zOC E yX10_givesAll cX10_givesAll 3 none d [zK 10 0, zI v1, zI v2] mm none o :=
  zCT_of (by decide) (Nat.le_of_ble_eq_true rfl) (zk_k (zk_i (zk_i zk_0))) rfl (wX10_givesAll hd h (fun r e => ⟨rfl, by rw [e]⟩))
def fX10_laysFlat_L2 (v1 : Int32) (s : (Int32 × zM)) : Option ((Int32 × zM) ⊕ (zM ⊕ Empty)) :=
  if 26 ≤ s.1 then (some (.inr (.inl s.2))) else ((fX10_flatAt v1 s.1 s.2).bind (fun x1 => zob (zin x1 1560) (some (.inl ((s.1 + 1), (wi s.2 44 0 (zn x1) 0))))))
def fX10_laysFlat_J72 (v1 : Int32) (v2 : Int32) (s0 : Int32) (s1 : Int32) (mm : zM) : Option ((Int32 × zM) ⊕ (zM ⊕ Empty)) :=
  zob (zin s1 1560) (some (.inl ((v2 + 1), (wi mm 44 0 (zn s1) s0))))
def fX10_laysFlat_L27 (v1 : Int32) (s : (Int32 × zM)) : Option ((Int32 × zM) ⊕ (zM ⊕ Empty)) :=
  (fX10_owns v1 s.2).bind (fun x4 => if x4 ≤ s.1 then (some (.inr (.inl s.2))) else ((fX10_ownAt v1 s.1 s.2).bind (fun x5 => zob (zin x5 1357) ((fX10_flatAt v1 ((gi s.2 38 0 (zn x5))) s.2).bind (fun x6 => zob (zin ((x5 + 1)) 1357) (if (gi s.2 38 0 (zn ((x5 + 1)))) = 0 then (fX10_laysFlat_J72 v1 s.1 2 x6 s.2) else (fX10_laysFlat_J72 v1 s.1 0 x6 s.2)))))))
def fX10_laysFlat_L92 (v1 : Int32) (v2 : Int32) (s : (Int32 × zM)) : Option ((Int32 × zM) ⊕ (zM ⊕ Empty)) :=
  if 26 ≤ s.1 then (some (.inr (.inl s.2))) else ((fX10_becomesIn v1 v2 s.1 s.2).bind (fun x10 => if x10 = (-1) then (some (.inl ((s.1 + 1), s.2))) else ((fX10_flatAt v1 x10 s.2).bind (fun x11 => (fX10_useAt v1 v2 s.2).bind (fun x12 => zob (zin x12 1357) ((fX10_flatAt ((gi s.2 38 0 (zn x12))) s.1 s.2).bind (fun x13 => (fX10_givesAll x11 x13 s.2).bind (fun x14 => some (.inl ((s.1 + 1), x14))))))))))
def fX10_laysFlat_L81 (v1 : Int32) (s : (Int32 × zM)) : Option ((Int32 × zM) ⊕ (zM ⊕ Empty)) :=
  (fX10_uses v1 s.2).bind (fun x9 => if x9 ≤ s.1 then (some (.inr (.inl s.2))) else ((zloop (fX10_laysFlat_L92 v1 s.1) zF (0, s.2)).bind (fun o17 => zcase o17 (fun y15 => some (.inl ((s.1 + 1), y15))) (fun r16 => r16.elim))))
def fX10_laysFlat_L151 (v1 : Int32) (s : (Int32 × zM)) : Option ((Int32 × zM) ⊕ (zM ⊕ Empty)) :=
  (fX10_owns v1 s.2).bind (fun x20 => if x20 ≤ s.1 then (some (.inr (.inl s.2))) else ((fX10_ownAt v1 s.1 s.2).bind (fun x21 => zob (zin ((x21 + 1)) 1357) (if (gi s.2 38 0 (zn ((x21 + 1)))) ≤ 0 then (some (.inl ((s.1 + 1), s.2))) else (zob (zin x21 1357) ((fX10_flatAt v1 ((gi s.2 38 0 (zn x21))) s.2).bind (fun x22 => zob (zin x22 1560) (zob (zin x21 1357) ((fX10_flatAt v1 ((gi ((wi s.2 44 0 (zn x22) 1)) 38 0 (zn x21))) ((wi s.2 44 0 (zn x22) 1))).bind (fun x23 => zob (zin ((x23 + 1)) 1560) (zob (zin x21 1357) ((fX10_flatAt v1 ((gi ((wi ((wi s.2 44 0 (zn x22) 1)) 44 0 (zn ((x23 + 1))) v1)) 38 0 (zn x21))) ((wi ((wi s.2 44 0 (zn x22) 1)) 44 0 (zn ((x23 + 1))) v1))).bind (fun x24 => zob (zin x21 1357) (zob (zin ((x24 + 2)) 1560) (some (.inl ((s.1 + 1), (wi ((wi ((wi s.2 44 0 (zn x22) 1)) 44 0 (zn ((x23 + 1))) v1)) 44 0 (zn ((x24 + 2))) ((gi ((wi ((wi s.2 44 0 (zn x22) 1)) 44 0 (zn ((x23 + 1))) v1)) 38 0 (zn x21)))))))))))))))))))))
def fX10_laysFlat (v1 : Int32) (mm : zM) : Option zM :=
  (zloop (fX10_laysFlat_L2 v1) zF (0, mm)).bind (fun o30 => zcase o30 (fun y2 => (zloop (fX10_laysFlat_L27 v1) zF (0, y2)).bind (fun o29 => zcase o29 (fun y7 => (zloop (fX10_laysFlat_L81 v1) zF (0, y7)).bind (fun o28 => zcase o28 (fun y18 => (zloop (fX10_laysFlat_L151 v1) zF (0, y18)).bind (fun o27 => zcase o27 (fun y25 => some y25) (fun r26 => r26.elim))) (fun r19 => r19.elim))) (fun r8 => r8.elim))) (fun r3 => r3.elim))
theorem wX10_laysFlat_L2 {E : zE} {d : Nat} (hd : 3 ≤ d) {Q : Option zV → zM → Prop} {v1 : Int32} {n : Nat} {s : (Int32 × zM)} {o : zM ⊕ Empty} (h : zloop (fX10_laysFlat_L2 v1) n s = some o) (he : ∀ y : zM, o = .inl y → V E RX10 cX10_laysFlat 5 none d Q 25 [some (zK 10 0), some (zI v1), none, none, none] [] y) : V E RX10 cX10_laysFlat 5 none d Q 2 [some (zK 10 0), some (zI v1), some (zI s.1), none, none] [] s.2 := by
  induction n generalizing s with
  | zero => exact (zloop_0 h).elim
  | succ n ih =>
    obtain ⟨o1, h1, hc1, he1⟩ := zloop_s h
    have kc : ∀ s' : (Int32 × zM), o1 = .inl s' → V E RX10 cX10_laysFlat 5 none d Q 2 [some (zK 10 0), some (zI v1), some (zI s'.1), none, none] [] s'.2 := fun s' e => ih (hc1 s' e)
    have ke : ∀ y : zM, o1 = .inr (.inl y) → V E RX10 cX10_laysFlat 5 none d Q 25 [some (zK 10 0), some (zI v1), none, none, none] [] y := fun y e => he y (he1 _ e)
    clear h hc1 he1 ih
    have h := h1
    clear h1
    unfold fX10_laysFlat_L2 at h
    refine V_iload_n 3 rfl 2 dX10_laysFlat_2 rfl rfl ?_
    refine V_bipush 5 rfl (v := 26) dX10_laysFlat_3 (by decide) ?_
    refine V_icmp_ge 8 25 rfl dX10_laysFlat_5 (by decide) (fun c => ?_) (fun c => ?_)
    · have h := zpos c h
      exact V_w (zsub_s (zsub_s (zsub_n (zsub_s (zsub_s zsub_0))))) (ke s.2 (zinj h))
    · have h := zneg c h
      refine V_aload_n 9 rfl 0 dX10_laysFlat_8 rfl rfl ?_
      refine V_getr 12 rfl 44 0 dX10_laysFlat_9 fl_X10_32 rfl rfl rfl ?_
      refine V_iload_n 13 rfl 1 dX10_laysFlat_12 rfl rfl ?_
      refine V_iload_n 14 rfl 2 dX10_laysFlat_13 rfl rfl ?_
      obtain ⟨x1, h1, h⟩ := zbd h
      refine V_cS 17 rfl 0 [zI v1, zI s.1] [zK 44 0] dX10_laysFlat_14 cs_X10_216 (ctX10_flatAt (Nat.le_refl 0) h1) (Nat.le_trans (by decide) hd) rfl rfl (Nat.le_of_ble_eq_true rfl) zoki rfl ?_
      refine V_iconst 18 rfl (v := 0) dX10_laysFlat_17 (by decide) ?_
      obtain ⟨hi, h⟩ := zobd h
      refine V_iast 19 rfl dX10_laysFlat_18 rfl hi ?_
      refine V_iinc 22 rfl (s.1 + 1) (L' := [some (zK 10 0), some (zI v1), some (zI (s.1 + 1)), none, none]) dX10_laysFlat_19 rfl rfl (by decide) rfl ?_
      refine V_goto 2 dX10_laysFlat_22 (by decide) ?_
      exact kc ((s.1 + 1), (wi s.2 44 0 (zn x1) 0)) (zinj h)
theorem wX10_laysFlat_J72 {E : zE} {d : Nat} (hd : 3 ≤ d) {Q : Option zV → zM → Prop} {v1 : Int32} {v2 : Int32} {s0 : Int32} {s1 : Int32} {mm : zM} {o : ((Int32 × zM) ⊕ (zM ⊕ Empty))} (h : fX10_laysFlat_J72 v1 v2 s0 s1 mm = some o) (kc : ∀ s' : (Int32 × zM), o = .inl s' → V E RX10 cX10_laysFlat 5 none d Q 27 [some (zK 10 0), some (zI v1), some (zI s'.1), none, none] [] s'.2) (ke : ∀ y : zM, o = .inr (.inl y) → V E RX10 cX10_laysFlat 5 none d Q 79 [some (zK 10 0), some (zI v1), none, none, none] [] y) : V E RX10 cX10_laysFlat 5 none d Q 72 [some (zK 10 0), some (zI v1), some (zI v2), none, none] [zI s0, zI s1, zK 44 0] mm := by
  unfold fX10_laysFlat_J72 at h
  obtain ⟨hi, h⟩ := zobd h
  refine V_iast 73 rfl dX10_laysFlat_72 rfl hi ?_
  refine V_iinc 76 rfl (v2 + 1) (L' := [some (zK 10 0), some (zI v1), some (zI (v2 + 1)), none, none]) dX10_laysFlat_73 rfl rfl (by decide) rfl ?_
  refine V_goto 27 dX10_laysFlat_76 (by decide) ?_
  exact kc ((v2 + 1), (wi mm 44 0 (zn s1) s0)) (zinj h)
theorem wX10_laysFlat_L27 {E : zE} {d : Nat} (hd : 3 ≤ d) {Q : Option zV → zM → Prop} {v1 : Int32} {n : Nat} {s : (Int32 × zM)} {o : zM ⊕ Empty} (h : zloop (fX10_laysFlat_L27 v1) n s = some o) (he : ∀ y : zM, o = .inl y → V E RX10 cX10_laysFlat 5 none d Q 79 [some (zK 10 0), some (zI v1), none, none, none] [] y) : V E RX10 cX10_laysFlat 5 none d Q 27 [some (zK 10 0), some (zI v1), some (zI s.1), none, none] [] s.2 := by
  induction n generalizing s with
  | zero => exact (zloop_0 h).elim
  | succ n ih =>
    obtain ⟨o1, h1, hc1, he1⟩ := zloop_s h
    have kc : ∀ s' : (Int32 × zM), o1 = .inl s' → V E RX10 cX10_laysFlat 5 none d Q 27 [some (zK 10 0), some (zI v1), some (zI s'.1), none, none] [] s'.2 := fun s' e => ih (hc1 s' e)
    have ke : ∀ y : zM, o1 = .inr (.inl y) → V E RX10 cX10_laysFlat 5 none d Q 79 [some (zK 10 0), some (zI v1), none, none, none] [] y := fun y e => he y (he1 _ e)
    clear h hc1 he1 ih
    have h := h1
    clear h1
    unfold fX10_laysFlat_L27 at h
    refine V_iload_n 28 rfl 2 dX10_laysFlat_27 rfl rfl ?_
    refine V_aload_n 29 rfl 0 dX10_laysFlat_28 rfl rfl ?_
    refine V_iload_n 30 rfl 1 dX10_laysFlat_29 rfl rfl ?_
    obtain ⟨x4, h1, h⟩ := zbd h
    refine V_cV 33 rfl 0 [zI v1] [zI s.1] dX10_laysFlat_30 cv_X10_207 (ctX10_owns (Nat.le_refl 0) h1) (Nat.le_trans (by decide) hd) rfl rfl (Nat.le_of_ble_eq_true rfl) zoki rfl ?_
    refine V_icmp_ge 36 79 rfl dX10_laysFlat_33 (by decide) (fun c => ?_) (fun c => ?_)
    · have h := zpos c h
      exact V_w (zsub_s (zsub_s (zsub_n (zsub_s (zsub_s zsub_0))))) (ke s.2 (zinj h))
    · have h := zneg c h
      refine V_iload_n 37 rfl 1 dX10_laysFlat_36 rfl rfl ?_
      refine V_iload_n 38 rfl 2 dX10_laysFlat_37 rfl rfl ?_
      obtain ⟨x5, h1, h⟩ := zbd h
      refine V_cS 41 rfl 0 [zI v1, zI s.1] [] dX10_laysFlat_38 cs_X10_168 (ctX10_ownAt (Nat.le_refl 0) h1) (Nat.le_trans (by decide) hd) rfl rfl (Nat.le_of_ble_eq_true rfl) zoki rfl ?_
      refine V_istore_n 42 rfl 3 (L' := [some (zK 10 0), some (zI v1), some (zI s.1), some (zI x5), none]) dX10_laysFlat_41 rfl (by decide) rfl ?_
      refine V_aload_n 43 rfl 0 dX10_laysFlat_42 rfl rfl ?_
      refine V_getr 46 rfl 44 0 dX10_laysFlat_43 fl_X10_32 rfl rfl rfl ?_
      refine V_iload_n 47 rfl 1 dX10_laysFlat_46 rfl rfl ?_
      refine V_aload_n 48 rfl 0 dX10_laysFlat_47 rfl rfl ?_
      refine V_getr 51 rfl 38 0 dX10_laysFlat_48 fl_X10_11 rfl rfl rfl ?_
      refine V_iload_n 52 rfl 3 dX10_laysFlat_51 rfl rfl ?_
      obtain ⟨hi, h⟩ := zobd h
      refine V_iald 53 rfl dX10_laysFlat_52 rfl hi ?_
      obtain ⟨x6, h1, h⟩ := zbd h
      refine V_cS 56 rfl 0 [zI v1, zI (gi s.2 38 0 (zn x5))] [zK 44 0] dX10_laysFlat_53 cs_X10_216 (ctX10_flatAt (Nat.le_refl 0) h1) (Nat.le_trans (by decide) hd) rfl rfl (Nat.le_of_ble_eq_true rfl) zoki rfl ?_
      refine V_aload_n 57 rfl 0 dX10_laysFlat_56 rfl rfl ?_
      refine V_getr 60 rfl 38 0 dX10_laysFlat_57 fl_X10_11 rfl rfl rfl ?_
      refine V_iload_n 61 rfl 3 dX10_laysFlat_60 rfl rfl ?_
      refine V_iconst 62 rfl (v := 1) dX10_laysFlat_61 (by decide) ?_
      refine V_iadd 63 rfl dX10_laysFlat_62 ?_
      obtain ⟨hi, h⟩ := zobd h
      refine V_iald 64 rfl dX10_laysFlat_63 rfl hi ?_
      refine V_if_ne 67 71 rfl dX10_laysFlat_64 (by decide) (fun c => ?_) (fun c => ?_)
      · have h := zneg c h
        refine V_iconst 72 rfl (v := 0) dX10_laysFlat_71 (by decide) ?_
        exact V_w (zsub_s (zsub_s (zsub_s (zsub_n (zsub_s zsub_0))))) (wX10_laysFlat_J72 hd h kc ke)
      · have h := zpos c h
        refine V_iconst 68 rfl (v := 2) dX10_laysFlat_67 (by decide) ?_
        refine V_goto 72 dX10_laysFlat_68 (by decide) ?_
        exact V_w (zsub_s (zsub_s (zsub_s (zsub_n (zsub_s zsub_0))))) (wX10_laysFlat_J72 hd h kc ke)
theorem wX10_laysFlat_L92 {E : zE} {d : Nat} (hd : 3 ≤ d) {Q : Option zV → zM → Prop} {v1 : Int32} {v2 : Int32} {n : Nat} {s : (Int32 × zM)} {o : zM ⊕ Empty} (h : zloop (fX10_laysFlat_L92 v1 v2) n s = some o) (he : ∀ y : zM, o = .inl y → V E RX10 cX10_laysFlat 5 none d Q 143 [some (zK 10 0), some (zI v1), some (zI v2), none, none] [] y) : V E RX10 cX10_laysFlat 5 none d Q 92 [some (zK 10 0), some (zI v1), some (zI v2), some (zI s.1), none] [] s.2 := by
  induction n generalizing s with
  | zero => exact (zloop_0 h).elim
  | succ n ih =>
    obtain ⟨o1, h1, hc1, he1⟩ := zloop_s h
    have kc : ∀ s' : (Int32 × zM), o1 = .inl s' → V E RX10 cX10_laysFlat 5 none d Q 92 [some (zK 10 0), some (zI v1), some (zI v2), some (zI s'.1), none] [] s'.2 := fun s' e => ih (hc1 s' e)
    have ke : ∀ y : zM, o1 = .inr (.inl y) → V E RX10 cX10_laysFlat 5 none d Q 143 [some (zK 10 0), some (zI v1), some (zI v2), none, none] [] y := fun y e => he y (he1 _ e)
    clear h hc1 he1 ih
    have h := h1
    clear h1
    unfold fX10_laysFlat_L92 at h
    refine V_iload_n 93 rfl 3 dX10_laysFlat_92 rfl rfl ?_
    refine V_bipush 95 rfl (v := 26) dX10_laysFlat_93 (by decide) ?_
    refine V_icmp_ge 98 143 rfl dX10_laysFlat_95 (by decide) (fun c => ?_) (fun c => ?_)
    · have h := zpos c h
      exact V_w (zsub_s (zsub_s (zsub_s (zsub_n (zsub_s zsub_0))))) (ke s.2 (zinj h))
    · have h := zneg c h
      refine V_aload_n 99 rfl 0 dX10_laysFlat_98 rfl rfl ?_
      refine V_iload_n 100 rfl 1 dX10_laysFlat_99 rfl rfl ?_
      refine V_iload_n 101 rfl 2 dX10_laysFlat_100 rfl rfl ?_
      refine V_iload_n 102 rfl 3 dX10_laysFlat_101 rfl rfl ?_
      obtain ⟨x10, h1, h⟩ := zbd h
      refine V_cV 105 rfl 2 [zI v1, zI v2, zI s.1] [] dX10_laysFlat_102 cv_X10_222 (ctX10_becomesIn (Nat.le_refl 2) h1) (Nat.le_trans (by decide) hd) rfl rfl (Nat.le_of_ble_eq_true rfl) zoki rfl ?_
      refine V_istore 107 rfl (L' := [some (zK 10 0), some (zI v1), some (zI v2), some (zI s.1), some (zI x10)]) dX10_laysFlat_105 (by decide) rfl ?_
      refine V_iload 109 rfl dX10_laysFlat_107 rfl ?_
      refine V_iconst 110 rfl (v := (-1)) dX10_laysFlat_109 (by decide) ?_
      refine V_icmp_eq 113 137 rfl dX10_laysFlat_110 (by decide) (fun c => ?_) (fun c => ?_)
      · have h := zpos c h
        refine V_iinc 140 rfl (s.1 + 1) (L' := [some (zK 10 0), some (zI v1), some (zI v2), some (zI (s.1 + 1)), some (zI x10)]) dX10_laysFlat_137 rfl rfl (by decide) rfl ?_
        refine V_goto 92 dX10_laysFlat_140 (by decide) ?_
        exact V_w (zsub_s (zsub_s (zsub_s (zsub_s (zsub_n zsub_0))))) (kc ((s.1 + 1), s.2) (zinj h))
      · have h := zneg c h
        refine V_aload_n 114 rfl 0 dX10_laysFlat_113 rfl rfl ?_
        refine V_iload_n 115 rfl 1 dX10_laysFlat_114 rfl rfl ?_
        refine V_iload 117 rfl dX10_laysFlat_115 rfl ?_
        obtain ⟨x11, h1, h⟩ := zbd h
        refine V_cS 120 rfl 0 [zI v1, zI x10] [zK 10 0] dX10_laysFlat_117 cs_X10_216 (ctX10_flatAt (Nat.le_refl 0) h1) (Nat.le_trans (by decide) hd) rfl rfl (Nat.le_of_ble_eq_true rfl) zoki rfl ?_
        refine V_aload_n 121 rfl 0 dX10_laysFlat_120 rfl rfl ?_
        refine V_getr 124 rfl 38 0 dX10_laysFlat_121 fl_X10_11 rfl rfl rfl ?_
        refine V_iload_n 125 rfl 1 dX10_laysFlat_124 rfl rfl ?_
        refine V_iload_n 126 rfl 2 dX10_laysFlat_125 rfl rfl ?_
        obtain ⟨x12, h1, h⟩ := zbd h
        refine V_cS 129 rfl 0 [zI v1, zI v2] [zK 38 0, zI x11, zK 10 0] dX10_laysFlat_126 cs_X10_147 (ctX10_useAt (Nat.le_refl 0) h1) (Nat.le_trans (by decide) hd) rfl rfl (Nat.le_of_ble_eq_true rfl) zoki rfl ?_
        obtain ⟨hi, h⟩ := zobd h
        refine V_iald 130 rfl dX10_laysFlat_129 rfl hi ?_
        refine V_iload_n 131 rfl 3 dX10_laysFlat_130 rfl rfl ?_
        obtain ⟨x13, h1, h⟩ := zbd h
        refine V_cS 134 rfl 0 [zI (gi s.2 38 0 (zn x12)), zI s.1] [zI x11, zK 10 0] dX10_laysFlat_131 cs_X10_216 (ctX10_flatAt (Nat.le_refl 0) h1) (Nat.le_trans (by decide) hd) rfl rfl (Nat.le_of_ble_eq_true rfl) zoki rfl ?_
        obtain ⟨x14, h1, h⟩ := zbd h
        refine V_cV 137 rfl 1 [zI x11, zI x13] [] dX10_laysFlat_134 cv_X10_225 (ctX10_givesAll (Nat.le_refl 1) h1) (Nat.le_trans (by decide) hd) rfl rfl (Nat.le_of_ble_eq_true rfl) zokn rfl ?_
        refine V_iinc 140 rfl (s.1 + 1) (L' := [some (zK 10 0), some (zI v1), some (zI v2), some (zI (s.1 + 1)), some (zI x10)]) dX10_laysFlat_137 rfl rfl (by decide) rfl ?_
        refine V_goto 92 dX10_laysFlat_140 (by decide) ?_
        exact V_w (zsub_s (zsub_s (zsub_s (zsub_s (zsub_n zsub_0))))) (kc ((s.1 + 1), x14) (zinj h))
theorem wX10_laysFlat_L81 {E : zE} {d : Nat} (hd : 3 ≤ d) {Q : Option zV → zM → Prop} {v1 : Int32} {n : Nat} {s : (Int32 × zM)} {o : zM ⊕ Empty} (h : zloop (fX10_laysFlat_L81 v1) n s = some o) (he : ∀ y : zM, o = .inl y → V E RX10 cX10_laysFlat 5 none d Q 149 [some (zK 10 0), some (zI v1), none, none, none] [] y) : V E RX10 cX10_laysFlat 5 none d Q 81 [some (zK 10 0), some (zI v1), some (zI s.1), none, none] [] s.2 := by
  induction n generalizing s with
  | zero => exact (zloop_0 h).elim
  | succ n ih =>
    obtain ⟨o1, h1, hc1, he1⟩ := zloop_s h
    have kc : ∀ s' : (Int32 × zM), o1 = .inl s' → V E RX10 cX10_laysFlat 5 none d Q 81 [some (zK 10 0), some (zI v1), some (zI s'.1), none, none] [] s'.2 := fun s' e => ih (hc1 s' e)
    have ke : ∀ y : zM, o1 = .inr (.inl y) → V E RX10 cX10_laysFlat 5 none d Q 149 [some (zK 10 0), some (zI v1), none, none, none] [] y := fun y e => he y (he1 _ e)
    clear h hc1 he1 ih
    have h := h1
    clear h1
    unfold fX10_laysFlat_L81 at h
    refine V_iload_n 82 rfl 2 dX10_laysFlat_81 rfl rfl ?_
    refine V_aload_n 83 rfl 0 dX10_laysFlat_82 rfl rfl ?_
    refine V_iload_n 84 rfl 1 dX10_laysFlat_83 rfl rfl ?_
    obtain ⟨x9, h1, h⟩ := zbd h
    refine V_cV 87 rfl 0 [zI v1] [zI s.1] dX10_laysFlat_84 cv_X10_210 (ctX10_uses (Nat.le_refl 0) h1) (Nat.le_trans (by decide) hd) rfl rfl (Nat.le_of_ble_eq_true rfl) zoki rfl ?_
    refine V_icmp_ge 90 149 rfl dX10_laysFlat_87 (by decide) (fun c => ?_) (fun c => ?_)
    · have h := zpos c h
      exact V_w (zsub_s (zsub_s (zsub_n (zsub_s (zsub_s zsub_0))))) (ke s.2 (zinj h))
    · have h := zneg c h
      refine V_iconst 91 rfl (v := 0) dX10_laysFlat_90 (by decide) ?_
      refine V_istore_n 92 rfl 3 (L' := [some (zK 10 0), some (zI v1), some (zI s.1), some (zI 0), none]) dX10_laysFlat_91 rfl (by decide) rfl ?_
      obtain ⟨o17, h1, h⟩ := zbd h
      refine wX10_laysFlat_L92 hd h1 (fun y15 e => ?_)
      have h := zcl_ e h
      refine V_iinc 146 rfl (s.1 + 1) (L' := [some (zK 10 0), some (zI v1), some (zI (s.1 + 1)), none, none]) dX10_laysFlat_143 rfl rfl (by decide) rfl ?_
      refine V_goto 81 dX10_laysFlat_146 (by decide) ?_
      exact kc ((s.1 + 1), y15) (zinj h)
theorem wX10_laysFlat_L151 {E : zE} {d : Nat} (hd : 3 ≤ d) {Q : Option zV → zM → Prop} {v1 : Int32} {n : Nat} {s : (Int32 × zM)} {o : zM ⊕ Empty} (h : zloop (fX10_laysFlat_L151 v1) n s = some o) (he : ∀ y : zM, o = .inl y → V E RX10 cX10_laysFlat 5 none d Q 240 [none, none, none, none, none] [] y) : V E RX10 cX10_laysFlat 5 none d Q 151 [some (zK 10 0), some (zI v1), some (zI s.1), none, none] [] s.2 := by
  induction n generalizing s with
  | zero => exact (zloop_0 h).elim
  | succ n ih =>
    obtain ⟨o1, h1, hc1, he1⟩ := zloop_s h
    have kc : ∀ s' : (Int32 × zM), o1 = .inl s' → V E RX10 cX10_laysFlat 5 none d Q 151 [some (zK 10 0), some (zI v1), some (zI s'.1), none, none] [] s'.2 := fun s' e => ih (hc1 s' e)
    have ke : ∀ y : zM, o1 = .inr (.inl y) → V E RX10 cX10_laysFlat 5 none d Q 240 [none, none, none, none, none] [] y := fun y e => he y (he1 _ e)
    clear h hc1 he1 ih
    have h := h1
    clear h1
    unfold fX10_laysFlat_L151 at h
    refine V_iload_n 152 rfl 2 dX10_laysFlat_151 rfl rfl ?_
    refine V_aload_n 153 rfl 0 dX10_laysFlat_152 rfl rfl ?_
    refine V_iload_n 154 rfl 1 dX10_laysFlat_153 rfl rfl ?_
    obtain ⟨x20, h1, h⟩ := zbd h
    refine V_cV 157 rfl 0 [zI v1] [zI s.1] dX10_laysFlat_154 cv_X10_207 (ctX10_owns (Nat.le_refl 0) h1) (Nat.le_trans (by decide) hd) rfl rfl (Nat.le_of_ble_eq_true rfl) zoki rfl ?_
    refine V_icmp_ge 160 240 rfl dX10_laysFlat_157 (by decide) (fun c => ?_) (fun c => ?_)
    · have h := zpos c h
      exact V_w (zsub_n (zsub_n (zsub_n (zsub_s (zsub_s zsub_0))))) (ke s.2 (zinj h))
    · have h := zneg c h
      refine V_iload_n 161 rfl 1 dX10_laysFlat_160 rfl rfl ?_
      refine V_iload_n 162 rfl 2 dX10_laysFlat_161 rfl rfl ?_
      obtain ⟨x21, h1, h⟩ := zbd h
      refine V_cS 165 rfl 0 [zI v1, zI s.1] [] dX10_laysFlat_162 cs_X10_168 (ctX10_ownAt (Nat.le_refl 0) h1) (Nat.le_trans (by decide) hd) rfl rfl (Nat.le_of_ble_eq_true rfl) zoki rfl ?_
      refine V_istore_n 166 rfl 3 (L' := [some (zK 10 0), some (zI v1), some (zI s.1), some (zI x21), none]) dX10_laysFlat_165 rfl (by decide) rfl ?_
      refine V_aload_n 167 rfl 0 dX10_laysFlat_166 rfl rfl ?_
      refine V_getr 170 rfl 38 0 dX10_laysFlat_167 fl_X10_11 rfl rfl rfl ?_
      refine V_iload_n 171 rfl 3 dX10_laysFlat_170 rfl rfl ?_
      refine V_iconst 172 rfl (v := 1) dX10_laysFlat_171 (by decide) ?_
      refine V_iadd 173 rfl dX10_laysFlat_172 ?_
      obtain ⟨hi, h⟩ := zobd h
      refine V_iald 174 rfl dX10_laysFlat_173 rfl hi ?_
      refine V_if_le 177 234 rfl dX10_laysFlat_174 (by decide) (fun c => ?_) (fun c => ?_)
      · have h := zpos c h
        refine V_iinc 237 rfl (s.1 + 1) (L' := [some (zK 10 0), some (zI v1), some (zI (s.1 + 1)), some (zI x21), none]) dX10_laysFlat_234 rfl rfl (by decide) rfl ?_
        refine V_goto 151 dX10_laysFlat_237 (by decide) ?_
        exact V_w (zsub_s (zsub_s (zsub_s (zsub_n (zsub_s zsub_0))))) (kc ((s.1 + 1), s.2) (zinj h))
      · have h := zneg c h
        refine V_aload_n 178 rfl 0 dX10_laysFlat_177 rfl rfl ?_
        refine V_getr 181 rfl 44 0 dX10_laysFlat_178 fl_X10_32 rfl rfl rfl ?_
        refine V_iload_n 182 rfl 1 dX10_laysFlat_181 rfl rfl ?_
        refine V_aload_n 183 rfl 0 dX10_laysFlat_182 rfl rfl ?_
        refine V_getr 186 rfl 38 0 dX10_laysFlat_183 fl_X10_11 rfl rfl rfl ?_
        refine V_iload_n 187 rfl 3 dX10_laysFlat_186 rfl rfl ?_
        obtain ⟨hi, h⟩ := zobd h
        refine V_iald 188 rfl dX10_laysFlat_187 rfl hi ?_
        obtain ⟨x22, h1, h⟩ := zbd h
        refine V_cS 191 rfl 0 [zI v1, zI (gi s.2 38 0 (zn x21))] [zK 44 0] dX10_laysFlat_188 cs_X10_216 (ctX10_flatAt (Nat.le_refl 0) h1) (Nat.le_trans (by decide) hd) rfl rfl (Nat.le_of_ble_eq_true rfl) zoki rfl ?_
        refine V_iconst 192 rfl (v := 1) dX10_laysFlat_191 (by decide) ?_
        obtain ⟨hi, h⟩ := zobd h
        refine V_iast 193 rfl dX10_laysFlat_192 rfl hi ?_
        refine V_aload_n 194 rfl 0 dX10_laysFlat_193 rfl rfl ?_
        refine V_getr 197 rfl 44 0 dX10_laysFlat_194 fl_X10_32 rfl rfl rfl ?_
        refine V_iload_n 198 rfl 1 dX10_laysFlat_197 rfl rfl ?_
        refine V_aload_n 199 rfl 0 dX10_laysFlat_198 rfl rfl ?_
        refine V_getr 202 rfl 38 0 dX10_laysFlat_199 fl_X10_11 rfl rfl rfl ?_
        refine V_iload_n 203 rfl 3 dX10_laysFlat_202 rfl rfl ?_
        obtain ⟨hi, h⟩ := zobd h
        refine V_iald 204 rfl dX10_laysFlat_203 rfl hi ?_
        obtain ⟨x23, h1, h⟩ := zbd h
        refine V_cS 207 rfl 0 [zI v1, zI (gi ((wi s.2 44 0 (zn x22) 1)) 38 0 (zn x21))] [zK 44 0] dX10_laysFlat_204 cs_X10_216 (ctX10_flatAt (Nat.le_refl 0) h1) (Nat.le_trans (by decide) hd) rfl rfl (Nat.le_of_ble_eq_true rfl) zoki rfl ?_
        refine V_iconst 208 rfl (v := 1) dX10_laysFlat_207 (by decide) ?_
        refine V_iadd 209 rfl dX10_laysFlat_208 ?_
        refine V_iload_n 210 rfl 1 dX10_laysFlat_209 rfl rfl ?_
        obtain ⟨hi, h⟩ := zobd h
        refine V_iast 211 rfl dX10_laysFlat_210 rfl hi ?_
        refine V_aload_n 212 rfl 0 dX10_laysFlat_211 rfl rfl ?_
        refine V_getr 215 rfl 44 0 dX10_laysFlat_212 fl_X10_32 rfl rfl rfl ?_
        refine V_iload_n 216 rfl 1 dX10_laysFlat_215 rfl rfl ?_
        refine V_aload_n 217 rfl 0 dX10_laysFlat_216 rfl rfl ?_
        refine V_getr 220 rfl 38 0 dX10_laysFlat_217 fl_X10_11 rfl rfl rfl ?_
        refine V_iload_n 221 rfl 3 dX10_laysFlat_220 rfl rfl ?_
        obtain ⟨hi, h⟩ := zobd h
        refine V_iald 222 rfl dX10_laysFlat_221 rfl hi ?_
        obtain ⟨x24, h1, h⟩ := zbd h
        refine V_cS 225 rfl 0 [zI v1, zI (gi ((wi ((wi s.2 44 0 (zn x22) 1)) 44 0 (zn ((x23 + 1))) v1)) 38 0 (zn x21))] [zK 44 0] dX10_laysFlat_222 cs_X10_216 (ctX10_flatAt (Nat.le_refl 0) h1) (Nat.le_trans (by decide) hd) rfl rfl (Nat.le_of_ble_eq_true rfl) zoki rfl ?_
        refine V_iconst 226 rfl (v := 2) dX10_laysFlat_225 (by decide) ?_
        refine V_iadd 227 rfl dX10_laysFlat_226 ?_
        refine V_aload_n 228 rfl 0 dX10_laysFlat_227 rfl rfl ?_
        refine V_getr 231 rfl 38 0 dX10_laysFlat_228 fl_X10_11 rfl rfl rfl ?_
        refine V_iload_n 232 rfl 3 dX10_laysFlat_231 rfl rfl ?_
        obtain ⟨hi, h⟩ := zobd h
        refine V_iald 233 rfl dX10_laysFlat_232 rfl hi ?_
        obtain ⟨hi, h⟩ := zobd h
        refine V_iast 234 rfl dX10_laysFlat_233 rfl hi ?_
        refine V_iinc 237 rfl (s.1 + 1) (L' := [some (zK 10 0), some (zI v1), some (zI (s.1 + 1)), some (zI x21), none]) dX10_laysFlat_234 rfl rfl (by decide) rfl ?_
        refine V_goto 151 dX10_laysFlat_237 (by decide) ?_
        exact V_w (zsub_s (zsub_s (zsub_s (zsub_n (zsub_s zsub_0))))) (kc ((s.1 + 1), (wi ((wi ((wi s.2 44 0 (zn x22) 1)) 44 0 (zn ((x23 + 1))) v1)) 44 0 (zn ((x24 + 2))) ((gi ((wi ((wi s.2 44 0 (zn x22) 1)) 44 0 (zn ((x23 + 1))) v1)) 38 0 (zn x21))))) (zinj h))
theorem wX10_laysFlat {E : zE} {d : Nat} (hd : 3 ≤ d) {Q : Option zV → zM → Prop} {v1 : Int32} {mm : zM} {o : zM} (h : fX10_laysFlat v1 mm = some o) (hQ : ∀ r, o = r → Q none r) : V E RX10 cX10_laysFlat 5 none d Q 0 [some (zK 10 0), some (zI v1), none, none, none] [] mm := by
  unfold fX10_laysFlat at h
  refine V_iconst 1 rfl (v := 0) dX10_laysFlat_0 (by decide) ?_
  refine V_istore_n 2 rfl 2 (L' := [some (zK 10 0), some (zI v1), some (zI 0), none, none]) dX10_laysFlat_1 rfl (by decide) rfl ?_
  obtain ⟨o30, h1, h⟩ := zbd h
  refine wX10_laysFlat_L2 hd h1 (fun y2 e => ?_)
  have h := zcl_ e h
  refine V_iconst 26 rfl (v := 0) dX10_laysFlat_25 (by decide) ?_
  refine V_istore_n 27 rfl 2 (L' := [some (zK 10 0), some (zI v1), some (zI 0), none, none]) dX10_laysFlat_26 rfl (by decide) rfl ?_
  obtain ⟨o29, h1, h⟩ := zbd h
  refine wX10_laysFlat_L27 hd h1 (fun y7 e => ?_)
  have h := zcl_ e h
  refine V_iconst 80 rfl (v := 0) dX10_laysFlat_79 (by decide) ?_
  refine V_istore_n 81 rfl 2 (L' := [some (zK 10 0), some (zI v1), some (zI 0), none, none]) dX10_laysFlat_80 rfl (by decide) rfl ?_
  obtain ⟨o28, h1, h⟩ := zbd h
  refine wX10_laysFlat_L81 hd h1 (fun y18 e => ?_)
  have h := zcl_ e h
  refine V_iconst 150 rfl (v := 0) dX10_laysFlat_149 (by decide) ?_
  refine V_istore_n 151 rfl 2 (L' := [some (zK 10 0), some (zI v1), some (zI 0), none, none]) dX10_laysFlat_150 rfl (by decide) rfl ?_
  obtain ⟨o27, h1, h⟩ := zbd h
  refine wX10_laysFlat_L151 hd h1 (fun y25 e => ?_)
  have h := zcl_ e h
  exact V_vret dX10_laysFlat_240 rfl (hQ y25 (zinj h))
theorem ctX10_laysFlat {E : zE} {d : Nat} (hd : 3 ≤ d) {v1 : Int32} {mm : zM} {o : zM} (h : fX10_laysFlat v1 mm = some o) : zOC E yX10_laysFlat cX10_laysFlat 5 none d [zK 10 0, zI v1] mm none o :=
  zCT_of (by decide) (Nat.le_of_ble_eq_true rfl) (zk_k (zk_i zk_0)) rfl (wX10_laysFlat hd h (fun r e => ⟨rfl, by rw [e]⟩))
def fX10_headOf (v1 : Int32) (mm : zM) : Option Int32 :=
  zob (zin v1 5) (zob (zin v1 5) (if (gi mm 50 0 (zn v1)) ≤ (gi mm 51 0 (zn v1)) then (some ((-1))) else (zob (zin v1 5) (zob (zin ((((12 * v1)) + ((gi mm 51 0 (zn v1))))) 60) (some ((gi mm 49 0 (zn ((((12 * v1)) + ((gi mm 51 0 (zn v1)))))))))))))
theorem wX10_headOf {E : zE} {d : Nat} (hd : 0 ≤ d) {Q : Option zV → zM → Prop} {v1 : Int32} {mm : zM} {o : Int32} (h : fX10_headOf v1 mm = some o) (hQ : ∀ r, o = r → Q (some (zI r)) mm) : V E RX10 cX10_headOf 2 (some .int) d Q 0 [some (zK 10 0), some (zI v1)] [] mm := by
  unfold fX10_headOf at h
  refine V_aload_n 1 rfl 0 dX10_headOf_0 rfl rfl ?_
  refine V_getr 4 rfl 51 0 dX10_headOf_1 fl_X10_53 rfl rfl rfl ?_
  refine V_iload_n 5 rfl 1 dX10_headOf_4 rfl rfl ?_
  obtain ⟨hi, h⟩ := zobd h
  refine V_iald 6 rfl dX10_headOf_5 rfl hi ?_
  refine V_aload_n 7 rfl 0 dX10_headOf_6 rfl rfl ?_
  refine V_getr 10 rfl 50 0 dX10_headOf_7 fl_X10_50 rfl rfl rfl ?_
  refine V_iload_n 11 rfl 1 dX10_headOf_10 rfl rfl ?_
  obtain ⟨hi, h⟩ := zobd h
  refine V_iald 12 rfl dX10_headOf_11 rfl hi ?_
  refine V_icmp_ge 15 34 rfl dX10_headOf_12 (by decide) (fun c => ?_) (fun c => ?_)
  · have h := zpos c h
    refine V_iconst 35 rfl (v := (-1)) dX10_headOf_34 (by decide) ?_
    exact V_iret dX10_headOf_35 rfl (hQ ((-1)) (zinj h))
  · have h := zneg c h
    refine V_aload_n 16 rfl 0 dX10_headOf_15 rfl rfl ?_
    refine V_getr 19 rfl 49 0 dX10_headOf_16 fl_X10_47 rfl rfl rfl ?_
    refine V_bipush 21 rfl (v := 12) dX10_headOf_19 (by decide) ?_
    refine V_iload_n 22 rfl 1 dX10_headOf_21 rfl rfl ?_
    refine V_imul 23 rfl dX10_headOf_22 ?_
    refine V_aload_n 24 rfl 0 dX10_headOf_23 rfl rfl ?_
    refine V_getr 27 rfl 51 0 dX10_headOf_24 fl_X10_53 rfl rfl rfl ?_
    refine V_iload_n 28 rfl 1 dX10_headOf_27 rfl rfl ?_
    obtain ⟨hi, h⟩ := zobd h
    refine V_iald 29 rfl dX10_headOf_28 rfl hi ?_
    refine V_iadd 30 rfl dX10_headOf_29 ?_
    obtain ⟨hi, h⟩ := zobd h
    refine V_iald 31 rfl dX10_headOf_30 rfl hi ?_
    refine V_goto 35 dX10_headOf_31 (by decide) ?_
    exact V_iret dX10_headOf_35 rfl (hQ ((gi mm 49 0 (zn ((((12 * v1)) + ((gi mm 51 0 (zn v1)))))))) (zinj h))
theorem ctX10_headOf {E : zE} {d : Nat} (hd : 0 ≤ d) {v1 : Int32} {mm : zM} {o : Int32} (h : fX10_headOf v1 mm = some o) : zOC E yX10_headOf cX10_headOf 2 (some .int) d [zK 10 0, zI v1] mm (some (zI o)) mm :=
  zCT_of (by decide) (Nat.le_of_ble_eq_true rfl) (zk_k (zk_i zk_0)) rfl (wX10_headOf hd h (fun r e => ⟨by rw [e], rfl⟩))
def fX10_isLeft_L2 (v1 : Int32) (mm : zM) (s : Int32) : Option (Int32 ⊕ (Unit ⊕ Int32)) :=
  if v1 ≤ s then (some (.inr (.inl ()))) else ((fX10_headOf s mm).bind (fun x1 => if x1 = (-1) then (some (.inl (s + 1))) else (some (.inr (.inr 1)))))
def fX10_isLeft (v1 : Int32) (mm : zM) : Option Int32 :=
  (zloop (fX10_isLeft_L2 v1 mm) zF 0).bind (fun o4 => zcase o4 (fun y2 => some 0) (fun r3 => some r3))
theorem wX10_isLeft_L2 {E : zE} {d : Nat} (hd : 1 ≤ d) {Q : Option zV → zM → Prop} {v1 : Int32} {mm : zM} {n : Nat} {s : Int32} {o : Unit ⊕ Int32} (h : zloop (fX10_isLeft_L2 v1 mm) n s = some o) (he : ∀ y : Unit, o = .inl y → V E RX10 cX10_isLeft 3 (some .boolean) d Q 24 [none, none, none] [] mm) (hr : ∀ r : Int32, o = .inr r → Q (some (zI r)) mm) : V E RX10 cX10_isLeft 3 (some .boolean) d Q 2 [some (zK 10 0), some (zI v1), some (zI s)] [] mm := by
  induction n generalizing s with
  | zero => exact (zloop_0 h).elim
  | succ n ih =>
    obtain ⟨o1, h1, hc1, he1⟩ := zloop_s h
    have kc : ∀ s' : Int32, o1 = .inl s' → V E RX10 cX10_isLeft 3 (some .boolean) d Q 2 [some (zK 10 0), some (zI v1), some (zI s')] [] mm := fun s' e => ih (hc1 s' e)
    have ke : ∀ y : Unit, o1 = .inr (.inl y) → V E RX10 cX10_isLeft 3 (some .boolean) d Q 24 [none, none, none] [] mm := fun y e => he y (he1 _ e)
    have kr : ∀ r : Int32, o1 = .inr (.inr r) → Q (some (zI r)) mm := fun r e => hr r (he1 _ e)
    clear h hc1 he1 ih
    have h := h1
    clear h1
    unfold fX10_isLeft_L2 at h
    refine V_iload_n 3 rfl 2 dX10_isLeft_2 rfl rfl ?_
    refine V_iload_n 4 rfl 1 dX10_isLeft_3 rfl rfl ?_
    refine V_icmp_ge 7 24 rfl dX10_isLeft_4 (by decide) (fun c => ?_) (fun c => ?_)
    · have h := zpos c h
      exact V_w (zsub_n (zsub_n (zsub_n zsub_0))) (ke () (zinj h))
    · have h := zneg c h
      refine V_aload_n 8 rfl 0 dX10_isLeft_7 rfl rfl ?_
      refine V_iload_n 9 rfl 2 dX10_isLeft_8 rfl rfl ?_
      obtain ⟨x1, h1, h⟩ := zbd h
      refine V_cV 12 rfl 0 [zI s] [] dX10_isLeft_9 cv_X10_231 (ctX10_headOf (Nat.le_refl 0) h1) (Nat.le_trans (by decide) hd) rfl rfl (Nat.le_of_ble_eq_true rfl) zoki rfl ?_
      refine V_iconst 13 rfl (v := (-1)) dX10_isLeft_12 (by decide) ?_
      refine V_icmp_eq 16 18 rfl dX10_isLeft_13 (by decide) (fun c => ?_) (fun c => ?_)
      · have h := zpos c h
        refine V_iinc 21 rfl (s + 1) (L' := [some (zK 10 0), some (zI v1), some (zI (s + 1))]) dX10_isLeft_18 rfl rfl (by decide) rfl ?_
        refine V_goto 2 dX10_isLeft_21 (by decide) ?_
        exact kc (s + 1) (zinj h)
      · have h := zneg c h
        refine V_iconst 17 rfl (v := 1) dX10_isLeft_16 (by decide) ?_
        exact V_zret dX10_isLeft_17 rfl rfl (kr 1 (zinj h))
theorem wX10_isLeft {E : zE} {d : Nat} (hd : 1 ≤ d) {Q : Option zV → zM → Prop} {v1 : Int32} {mm : zM} {o : Int32} (h : fX10_isLeft v1 mm = some o) (hQ : ∀ r, o = r → Q (some (zI r)) mm) : V E RX10 cX10_isLeft 3 (some .boolean) d Q 0 [some (zK 10 0), some (zI v1), none] [] mm := by
  unfold fX10_isLeft at h
  refine V_iconst 1 rfl (v := 0) dX10_isLeft_0 (by decide) ?_
  refine V_istore_n 2 rfl 2 (L' := [some (zK 10 0), some (zI v1), some (zI 0)]) dX10_isLeft_1 rfl (by decide) rfl ?_
  obtain ⟨o4, h1, h⟩ := zbd h
  refine wX10_isLeft_L2 hd h1 (fun y2 e => ?_) (fun r e => by have h := zcr_ e h; exact hQ r (zinj h))
  have h := zcl_ e h
  refine V_iconst 25 rfl (v := 0) dX10_isLeft_24 (by decide) ?_
  exact V_zret dX10_isLeft_25 rfl rfl (hQ 0 (zinj h))
theorem ctX10_isLeft {E : zE} {d : Nat} (hd : 1 ≤ d) {v1 : Int32} {mm : zM} {o : Int32} (h : fX10_isLeft v1 mm = some o) : zOC E yX10_isLeft cX10_isLeft 3 (some .boolean) d [zK 10 0, zI v1] mm (some (zI o)) mm :=
  zCT_of (by decide) (Nat.le_of_ble_eq_true rfl) (zk_k (zk_i zk_0)) rfl (wX10_isLeft hd h (fun r e => ⟨by rw [e], rfl⟩))
def fX10_isInTail_L9 (v1 : Int32) (v2 : Int32) (mm : zM) (s : Int32) : Option (Int32 ⊕ (Unit ⊕ Int32)) :=
  zob (zin v1 5) (if (gi mm 50 0 (zn v1)) ≤ s then (some (.inr (.inl ()))) else (zob (zin ((((12 * v1)) + s)) 60) (if (gi mm 49 0 (zn ((((12 * v1)) + s)))) = v2 then (some (.inr (.inr 1))) else (some (.inl (s + 1))))))
def fX10_isInTail (v1 : Int32) (v2 : Int32) (mm : zM) : Option Int32 :=
  zob (zin v1 5) ((zloop (fX10_isInTail_L9 v1 v2 mm) zF (((gi mm 51 0 (zn v1))) + 1)).bind (fun o3 => zcase o3 (fun y1 => some 0) (fun r2 => some r2)))
theorem wX10_isInTail_L9 {E : zE} {d : Nat} (hd : 0 ≤ d) {Q : Option zV → zM → Prop} {v1 : Int32} {v2 : Int32} {mm : zM} {n : Nat} {s : Int32} {o : Unit ⊕ Int32} (h : zloop (fX10_isInTail_L9 v1 v2 mm) n s = some o) (he : ∀ y : Unit, o = .inl y → V E RX10 cX10_isInTail 4 (some .boolean) d Q 42 [none, none, none, none] [] mm) (hr : ∀ r : Int32, o = .inr r → Q (some (zI r)) mm) : V E RX10 cX10_isInTail 4 (some .boolean) d Q 9 [some (zK 10 0), some (zI v1), some (zI v2), some (zI s)] [] mm := by
  induction n generalizing s with
  | zero => exact (zloop_0 h).elim
  | succ n ih =>
    obtain ⟨o1, h1, hc1, he1⟩ := zloop_s h
    have kc : ∀ s' : Int32, o1 = .inl s' → V E RX10 cX10_isInTail 4 (some .boolean) d Q 9 [some (zK 10 0), some (zI v1), some (zI v2), some (zI s')] [] mm := fun s' e => ih (hc1 s' e)
    have ke : ∀ y : Unit, o1 = .inr (.inl y) → V E RX10 cX10_isInTail 4 (some .boolean) d Q 42 [none, none, none, none] [] mm := fun y e => he y (he1 _ e)
    have kr : ∀ r : Int32, o1 = .inr (.inr r) → Q (some (zI r)) mm := fun r e => hr r (he1 _ e)
    clear h hc1 he1 ih
    have h := h1
    clear h1
    unfold fX10_isInTail_L9 at h
    refine V_iload_n 10 rfl 3 dX10_isInTail_9 rfl rfl ?_
    refine V_aload_n 11 rfl 0 dX10_isInTail_10 rfl rfl ?_
    refine V_getr 14 rfl 50 0 dX10_isInTail_11 fl_X10_50 rfl rfl rfl ?_
    refine V_iload_n 15 rfl 1 dX10_isInTail_14 rfl rfl ?_
    obtain ⟨hi, h⟩ := zobd h
    refine V_iald 16 rfl dX10_isInTail_15 rfl hi ?_
    refine V_icmp_ge 19 42 rfl dX10_isInTail_16 (by decide) (fun c => ?_) (fun c => ?_)
    · have h := zpos c h
      exact V_w (zsub_n (zsub_n (zsub_n (zsub_n zsub_0)))) (ke () (zinj h))
    · have h := zneg c h
      refine V_aload_n 20 rfl 0 dX10_isInTail_19 rfl rfl ?_
      refine V_getr 23 rfl 49 0 dX10_isInTail_20 fl_X10_47 rfl rfl rfl ?_
      refine V_bipush 25 rfl (v := 12) dX10_isInTail_23 (by decide) ?_
      refine V_iload_n 26 rfl 1 dX10_isInTail_25 rfl rfl ?_
      refine V_imul 27 rfl dX10_isInTail_26 ?_
      refine V_iload_n 28 rfl 3 dX10_isInTail_27 rfl rfl ?_
      refine V_iadd 29 rfl dX10_isInTail_28 ?_
      obtain ⟨hi, h⟩ := zobd h
      refine V_iald 30 rfl dX10_isInTail_29 rfl hi ?_
      refine V_iload_n 31 rfl 2 dX10_isInTail_30 rfl rfl ?_
      refine V_icmp_ne 34 36 rfl dX10_isInTail_31 (by decide) (fun c => ?_) (fun c => ?_)
      · have h := zneg c h
        refine V_iinc 39 rfl (s + 1) (L' := [some (zK 10 0), some (zI v1), some (zI v2), some (zI (s + 1))]) dX10_isInTail_36 rfl rfl (by decide) rfl ?_
        refine V_goto 9 dX10_isInTail_39 (by decide) ?_
        exact kc (s + 1) (zinj h)
      · have h := zpos c h
        refine V_iconst 35 rfl (v := 1) dX10_isInTail_34 (by decide) ?_
        exact V_zret dX10_isInTail_35 rfl rfl (kr 1 (zinj h))
theorem wX10_isInTail {E : zE} {d : Nat} (hd : 0 ≤ d) {Q : Option zV → zM → Prop} {v1 : Int32} {v2 : Int32} {mm : zM} {o : Int32} (h : fX10_isInTail v1 v2 mm = some o) (hQ : ∀ r, o = r → Q (some (zI r)) mm) : V E RX10 cX10_isInTail 4 (some .boolean) d Q 0 [some (zK 10 0), some (zI v1), some (zI v2), none] [] mm := by
  unfold fX10_isInTail at h
  refine V_aload_n 1 rfl 0 dX10_isInTail_0 rfl rfl ?_
  refine V_getr 4 rfl 51 0 dX10_isInTail_1 fl_X10_53 rfl rfl rfl ?_
  refine V_iload_n 5 rfl 1 dX10_isInTail_4 rfl rfl ?_
  obtain ⟨hi, h⟩ := zobd h
  refine V_iald 6 rfl dX10_isInTail_5 rfl hi ?_
  refine V_iconst 7 rfl (v := 1) dX10_isInTail_6 (by decide) ?_
  refine V_iadd 8 rfl dX10_isInTail_7 ?_
  refine V_istore_n 9 rfl 3 (L' := [some (zK 10 0), some (zI v1), some (zI v2), some (zI (((gi mm 51 0 (zn v1))) + 1))]) dX10_isInTail_8 rfl (by decide) rfl ?_
  obtain ⟨o3, h1, h⟩ := zbd h
  refine wX10_isInTail_L9 hd h1 (fun y1 e => ?_) (fun r e => by have h := zcr_ e h; exact hQ r (zinj h))
  have h := zcl_ e h
  refine V_iconst 43 rfl (v := 0) dX10_isInTail_42 (by decide) ?_
  exact V_zret dX10_isInTail_43 rfl rfl (hQ 0 (zinj h))
theorem ctX10_isInTail {E : zE} {d : Nat} (hd : 0 ≤ d) {v1 : Int32} {v2 : Int32} {mm : zM} {o : Int32} (h : fX10_isInTail v1 v2 mm = some o) : zOC E yX10_isInTail cX10_isInTail 4 (some .boolean) d [zK 10 0, zI v1, zI v2] mm (some (zI o)) mm :=
  zCT_of (by decide) (Nat.le_of_ble_eq_true rfl) (zk_k (zk_i (zk_i zk_0))) rfl (wX10_isInTail hd h (fun r e => ⟨by rw [e], rfl⟩))
def fX10_tailOf_L2 (v1 : Int32) (v2 : Int32) (mm : zM) (s : Int32) : Option (Int32 ⊕ (Unit ⊕ Int32)) :=
  if v1 ≤ s then (some (.inr (.inl ()))) else ((fX10_isInTail s v2 mm).bind (fun x1 => if x1 = 0 then (some (.inl (s + 1))) else (some (.inr (.inr s)))))
def fX10_tailOf (v1 : Int32) (v2 : Int32) (mm : zM) : Option Int32 :=
  (zloop (fX10_tailOf_L2 v1 v2 mm) zF 0).bind (fun o4 => zcase o4 (fun y2 => some ((-1))) (fun r3 => some r3))
theorem wX10_tailOf_L2 {E : zE} {d : Nat} (hd : 1 ≤ d) {Q : Option zV → zM → Prop} {v1 : Int32} {v2 : Int32} {mm : zM} {n : Nat} {s : Int32} {o : Unit ⊕ Int32} (h : zloop (fX10_tailOf_L2 v1 v2 mm) n s = some o) (he : ∀ y : Unit, o = .inl y → V E RX10 cX10_tailOf 4 (some .int) d Q 24 [none, none, none, none] [] mm) (hr : ∀ r : Int32, o = .inr r → Q (some (zI r)) mm) : V E RX10 cX10_tailOf 4 (some .int) d Q 2 [some (zK 10 0), some (zI v1), some (zI v2), some (zI s)] [] mm := by
  induction n generalizing s with
  | zero => exact (zloop_0 h).elim
  | succ n ih =>
    obtain ⟨o1, h1, hc1, he1⟩ := zloop_s h
    have kc : ∀ s' : Int32, o1 = .inl s' → V E RX10 cX10_tailOf 4 (some .int) d Q 2 [some (zK 10 0), some (zI v1), some (zI v2), some (zI s')] [] mm := fun s' e => ih (hc1 s' e)
    have ke : ∀ y : Unit, o1 = .inr (.inl y) → V E RX10 cX10_tailOf 4 (some .int) d Q 24 [none, none, none, none] [] mm := fun y e => he y (he1 _ e)
    have kr : ∀ r : Int32, o1 = .inr (.inr r) → Q (some (zI r)) mm := fun r e => hr r (he1 _ e)
    clear h hc1 he1 ih
    have h := h1
    clear h1
    unfold fX10_tailOf_L2 at h
    refine V_iload_n 3 rfl 3 dX10_tailOf_2 rfl rfl ?_
    refine V_iload_n 4 rfl 1 dX10_tailOf_3 rfl rfl ?_
    refine V_icmp_ge 7 24 rfl dX10_tailOf_4 (by decide) (fun c => ?_) (fun c => ?_)
    · have h := zpos c h
      exact V_w (zsub_n (zsub_n (zsub_n (zsub_n zsub_0)))) (ke () (zinj h))
    · have h := zneg c h
      refine V_aload_n 8 rfl 0 dX10_tailOf_7 rfl rfl ?_
      refine V_iload_n 9 rfl 3 dX10_tailOf_8 rfl rfl ?_
      refine V_iload_n 10 rfl 2 dX10_tailOf_9 rfl rfl ?_
      obtain ⟨x1, h1, h⟩ := zbd h
      refine V_cV 13 rfl 0 [zI s, zI v2] [] dX10_tailOf_10 cv_X10_228 (ctX10_isInTail (Nat.le_refl 0) h1) (Nat.le_trans (by decide) hd) rfl rfl (Nat.le_of_ble_eq_true rfl) zoki rfl ?_
      refine V_if_eq 16 18 rfl dX10_tailOf_13 (by decide) (fun c => ?_) (fun c => ?_)
      · have h := zpos c h
        refine V_iinc 21 rfl (s + 1) (L' := [some (zK 10 0), some (zI v1), some (zI v2), some (zI (s + 1))]) dX10_tailOf_18 rfl rfl (by decide) rfl ?_
        refine V_goto 2 dX10_tailOf_21 (by decide) ?_
        exact kc (s + 1) (zinj h)
      · have h := zneg c h
        refine V_iload_n 17 rfl 3 dX10_tailOf_16 rfl rfl ?_
        exact V_iret dX10_tailOf_17 rfl (kr s (zinj h))
theorem wX10_tailOf {E : zE} {d : Nat} (hd : 1 ≤ d) {Q : Option zV → zM → Prop} {v1 : Int32} {v2 : Int32} {mm : zM} {o : Int32} (h : fX10_tailOf v1 v2 mm = some o) (hQ : ∀ r, o = r → Q (some (zI r)) mm) : V E RX10 cX10_tailOf 4 (some .int) d Q 0 [some (zK 10 0), some (zI v1), some (zI v2), none] [] mm := by
  unfold fX10_tailOf at h
  refine V_iconst 1 rfl (v := 0) dX10_tailOf_0 (by decide) ?_
  refine V_istore_n 2 rfl 3 (L' := [some (zK 10 0), some (zI v1), some (zI v2), some (zI 0)]) dX10_tailOf_1 rfl (by decide) rfl ?_
  obtain ⟨o4, h1, h⟩ := zbd h
  refine wX10_tailOf_L2 hd h1 (fun y2 e => ?_) (fun r e => by have h := zcr_ e h; exact hQ r (zinj h))
  have h := zcl_ e h
  refine V_iconst 25 rfl (v := (-1)) dX10_tailOf_24 (by decide) ?_
  exact V_iret dX10_tailOf_25 rfl (hQ ((-1)) (zinj h))
theorem ctX10_tailOf {E : zE} {d : Nat} (hd : 1 ≤ d) {v1 : Int32} {v2 : Int32} {mm : zM} {o : Int32} (h : fX10_tailOf v1 v2 mm = some o) : zOC E yX10_tailOf cX10_tailOf 4 (some .int) d [zK 10 0, zI v1, zI v2] mm (some (zI o)) mm :=
  zCT_of (by decide) (Nat.le_of_ble_eq_true rfl) (zk_k (zk_i (zk_i zk_0))) rfl (wX10_tailOf hd h (fun r e => ⟨by rw [e], rfl⟩))
def fX10_nextHead_L2 (v1 : Int32) (mm : zM) (s : Int32) : Option (Int32 ⊕ (Unit ⊕ Int32)) :=
  if v1 ≤ s then (some (.inr (.inl ()))) else ((fX10_headOf s mm).bind (fun x1 => if x1 = (-1) then (some (.inl (s + 1))) else ((fX10_headOf s mm).bind (fun x2 => (fX10_tailOf v1 x2 mm).bind (fun x3 => if x3 = (-1) then ((fX10_headOf s mm).bind (fun x4 => some (.inr (.inr x4)))) else (some (.inl (s + 1))))))))
def fX10_nextHead (v1 : Int32) (mm : zM) : Option Int32 :=
  (zloop (fX10_nextHead_L2 v1 mm) zF 0).bind (fun o7 => zcase o7 (fun y5 => some ((-1))) (fun r6 => some r6))
theorem wX10_nextHead_L2 {E : zE} {d : Nat} (hd : 2 ≤ d) {Q : Option zV → zM → Prop} {v1 : Int32} {mm : zM} {n : Nat} {s : Int32} {o : Unit ⊕ Int32} (h : zloop (fX10_nextHead_L2 v1 mm) n s = some o) (he : ∀ y : Unit, o = .inl y → V E RX10 cX10_nextHead 3 (some .int) d Q 42 [none, none, none] [] mm) (hr : ∀ r : Int32, o = .inr r → Q (some (zI r)) mm) : V E RX10 cX10_nextHead 3 (some .int) d Q 2 [some (zK 10 0), some (zI v1), some (zI s)] [] mm := by
  induction n generalizing s with
  | zero => exact (zloop_0 h).elim
  | succ n ih =>
    obtain ⟨o1, h1, hc1, he1⟩ := zloop_s h
    have kc : ∀ s' : Int32, o1 = .inl s' → V E RX10 cX10_nextHead 3 (some .int) d Q 2 [some (zK 10 0), some (zI v1), some (zI s')] [] mm := fun s' e => ih (hc1 s' e)
    have ke : ∀ y : Unit, o1 = .inr (.inl y) → V E RX10 cX10_nextHead 3 (some .int) d Q 42 [none, none, none] [] mm := fun y e => he y (he1 _ e)
    have kr : ∀ r : Int32, o1 = .inr (.inr r) → Q (some (zI r)) mm := fun r e => hr r (he1 _ e)
    clear h hc1 he1 ih
    have h := h1
    clear h1
    unfold fX10_nextHead_L2 at h
    refine V_iload_n 3 rfl 2 dX10_nextHead_2 rfl rfl ?_
    refine V_iload_n 4 rfl 1 dX10_nextHead_3 rfl rfl ?_
    refine V_icmp_ge 7 42 rfl dX10_nextHead_4 (by decide) (fun c => ?_) (fun c => ?_)
    · have h := zpos c h
      exact V_w (zsub_n (zsub_n (zsub_n zsub_0))) (ke () (zinj h))
    · have h := zneg c h
      refine V_aload_n 8 rfl 0 dX10_nextHead_7 rfl rfl ?_
      refine V_iload_n 9 rfl 2 dX10_nextHead_8 rfl rfl ?_
      obtain ⟨x1, h1, h⟩ := zbd h
      refine V_cV 12 rfl 0 [zI s] [] dX10_nextHead_9 cv_X10_231 (ctX10_headOf (Nat.le_refl 0) h1) (Nat.le_trans (by decide) hd) rfl rfl (Nat.le_of_ble_eq_true rfl) zoki rfl ?_
      refine V_iconst 13 rfl (v := (-1)) dX10_nextHead_12 (by decide) ?_
      refine V_icmp_eq 16 36 rfl dX10_nextHead_13 (by decide) (fun c => ?_) (fun c => ?_)
      · have h := zpos c h
        refine V_iinc 39 rfl (s + 1) (L' := [some (zK 10 0), some (zI v1), some (zI (s + 1))]) dX10_nextHead_36 rfl rfl (by decide) rfl ?_
        refine V_goto 2 dX10_nextHead_39 (by decide) ?_
        exact kc (s + 1) (zinj h)
      · have h := zneg c h
        refine V_aload_n 17 rfl 0 dX10_nextHead_16 rfl rfl ?_
        refine V_iload_n 18 rfl 1 dX10_nextHead_17 rfl rfl ?_
        refine V_aload_n 19 rfl 0 dX10_nextHead_18 rfl rfl ?_
        refine V_iload_n 20 rfl 2 dX10_nextHead_19 rfl rfl ?_
        obtain ⟨x2, h1, h⟩ := zbd h
        refine V_cV 23 rfl 0 [zI s] [zI v1, zK 10 0] dX10_nextHead_20 cv_X10_231 (ctX10_headOf (Nat.le_refl 0) h1) (Nat.le_trans (by decide) hd) rfl rfl (Nat.le_of_ble_eq_true rfl) zoki rfl ?_
        obtain ⟨x3, h1, h⟩ := zbd h
        refine V_cV 26 rfl 1 [zI v1, zI x2] [] dX10_nextHead_23 cv_X10_234 (ctX10_tailOf (Nat.le_refl 1) h1) (Nat.le_trans (by decide) hd) rfl rfl (Nat.le_of_ble_eq_true rfl) zoki rfl ?_
        refine V_iconst 27 rfl (v := (-1)) dX10_nextHead_26 (by decide) ?_
        refine V_icmp_ne 30 36 rfl dX10_nextHead_27 (by decide) (fun c => ?_) (fun c => ?_)
        · have h := zneg c h
          refine V_iinc 39 rfl (s + 1) (L' := [some (zK 10 0), some (zI v1), some (zI (s + 1))]) dX10_nextHead_36 rfl rfl (by decide) rfl ?_
          refine V_goto 2 dX10_nextHead_39 (by decide) ?_
          exact kc (s + 1) (zinj h)
        · have h := zpos c h
          refine V_aload_n 31 rfl 0 dX10_nextHead_30 rfl rfl ?_
          refine V_iload_n 32 rfl 2 dX10_nextHead_31 rfl rfl ?_
          obtain ⟨x4, h1, h⟩ := zbd h
          refine V_cV 35 rfl 0 [zI s] [] dX10_nextHead_32 cv_X10_231 (ctX10_headOf (Nat.le_refl 0) h1) (Nat.le_trans (by decide) hd) rfl rfl (Nat.le_of_ble_eq_true rfl) zoki rfl ?_
          exact V_iret dX10_nextHead_35 rfl (kr x4 (zinj h))
theorem wX10_nextHead {E : zE} {d : Nat} (hd : 2 ≤ d) {Q : Option zV → zM → Prop} {v1 : Int32} {mm : zM} {o : Int32} (h : fX10_nextHead v1 mm = some o) (hQ : ∀ r, o = r → Q (some (zI r)) mm) : V E RX10 cX10_nextHead 3 (some .int) d Q 0 [some (zK 10 0), some (zI v1), none] [] mm := by
  unfold fX10_nextHead at h
  refine V_iconst 1 rfl (v := 0) dX10_nextHead_0 (by decide) ?_
  refine V_istore_n 2 rfl 2 (L' := [some (zK 10 0), some (zI v1), some (zI 0)]) dX10_nextHead_1 rfl (by decide) rfl ?_
  obtain ⟨o7, h1, h⟩ := zbd h
  refine wX10_nextHead_L2 hd h1 (fun y5 e => ?_) (fun r e => by have h := zcr_ e h; exact hQ r (zinj h))
  have h := zcl_ e h
  refine V_iconst 43 rfl (v := (-1)) dX10_nextHead_42 (by decide) ?_
  exact V_iret dX10_nextHead_43 rfl (hQ ((-1)) (zinj h))
theorem ctX10_nextHead {E : zE} {d : Nat} (hd : 2 ≤ d) {v1 : Int32} {mm : zM} {o : Int32} (h : fX10_nextHead v1 mm = some o) : zOC E yX10_nextHead cX10_nextHead 3 (some .int) d [zK 10 0, zI v1] mm (some (zI o)) mm :=
  zCT_of (by decide) (Nat.le_of_ble_eq_true rfl) (zk_k (zk_i zk_0)) rfl (wX10_nextHead hd h (fun r e => ⟨by rw [e], rfl⟩))
def fX10_laysRing_L2 (v1 : Int32) (v2 : Int32) (mm : zM) (s : Int32) : Option (Int32 ⊕ (Int32 ⊕ Empty)) :=
  (fX10_headOf s mm).bind (fun x1 => if x1 = (-1) then (some (.inl (s + 1))) else (some (.inr (.inl s))))
def fX10_laysRing_L69 (v1 : Int32) (v2 : Int32) (v4 : Int32) (v5 : Int32) (mm : zM) (s : (Int32 × Int32)) : Option ((Int32 × Int32) ⊕ (Int32 ⊕ Empty)) :=
  if v4 ≤ s.2 then (some (.inr (.inl s.1))) else (zob (zin ((((12 * v1)) + s.2)) 144) (if (gi mm 47 0 (zn ((((12 * v1)) + s.2)))) = v5 then (some (.inl (s.2, (s.2 + 1)))) else (some (.inl (s.1, (s.2 + 1))))))
def fX10_laysRing_L30 (v1 : Int32) (v2 : Int32) (s : (Int32 × Int32 × Int32 × zM)) : Option ((Int32 × Int32 × Int32 × zM) ⊕ ((Int32 × Int32 × zM) ⊕ Empty)) :=
  if s.2.2.1 = (-1) then (zob (zin ((((12 * v1)) + s.1)) 144) ((fX10_tailOf v2 s.2.1 ((wi s.2.2.2 47 0 (zn ((((12 * v1)) + s.1))) s.2.1))).bind (fun x5 => (fX10_headOf x5 ((wi s.2.2.2 47 0 (zn ((((12 * v1)) + s.1))) s.2.1))).bind (fun x6 => (zloop (fX10_laysRing_L69 v1 v2 ((s.1 + 1)) x6 ((wi s.2.2.2 47 0 (zn ((((12 * v1)) + s.1))) s.2.1))) zF (s.2.2.1, 0)).bind (fun o9 => zcase o9 (fun y7 => some (.inl ((s.1 + 1), x6, y7, (wi s.2.2.2 47 0 (zn ((((12 * v1)) + s.1))) s.2.1)))) (fun r8 => r8.elim)))))) else (some (.inr (.inl (s.1, s.2.2.1, s.2.2.2))))
def fX10_laysRing_L115 (v1 : Int32) (v4 : Int32) (v6 : Int32) (s : (Int32 × zM)) : Option ((Int32 × zM) ⊕ (zM ⊕ Empty)) :=
  if v4 ≤ s.1 then (some (.inr (.inl s.2))) else (zob (zin ((((12 * v1)) + s.1)) 144) (zob (zin ((((((12 * v1)) + s.1)) - v6)) 144) (some (.inl ((s.1 + 1), (wi s.2 47 0 (zn ((((((12 * v1)) + s.1)) - v6))) ((gi s.2 47 0 (zn ((((12 * v1)) + s.1)))))))))))
def fX10_laysRing (v1 : Int32) (v2 : Int32) (mm : zM) : Option zM :=
  (zloop (fX10_laysRing_L2 v1 v2 mm) zF 0).bind (fun o16 => zcase o16 (fun y2 => (fX10_headOf y2 mm).bind (fun x4 => (zloop (fX10_laysRing_L30 v1 v2) zF (0, x4, (-1), mm)).bind (fun o15 => zcase o15 (fun y10 => (zloop (fX10_laysRing_L115 v1 y10.1 y10.2.1) zF (y10.2.1, y10.2.2)).bind (fun o14 => zcase o14 (fun y12 => zob (zin v1 12) (some ((wi y12 48 0 (zn v1) ((y10.1 - y10.2.1)))))) (fun r13 => r13.elim))) (fun r11 => r11.elim)))) (fun r3 => r3.elim))
theorem wX10_laysRing_L2 {E : zE} {d : Nat} (hd : 2 ≤ d) {Q : Option zV → zM → Prop} {v1 : Int32} {v2 : Int32} {mm : zM} {n : Nat} {s : Int32} {o : Int32 ⊕ Empty} (h : zloop (fX10_laysRing_L2 v1 v2 mm) n s = some o) (he : ∀ y : Int32, o = .inl y → V E RX10 cX10_laysRing 8 none d Q 17 [some (zK 10 0), some (zI v1), some (zI v2), some (zI y), none, none, none, none] [] mm) : V E RX10 cX10_laysRing 8 none d Q 2 [some (zK 10 0), some (zI v1), some (zI v2), some (zI s), none, none, none, none] [] mm := by
  induction n generalizing s with
  | zero => exact (zloop_0 h).elim
  | succ n ih =>
    obtain ⟨o1, h1, hc1, he1⟩ := zloop_s h
    have kc : ∀ s' : Int32, o1 = .inl s' → V E RX10 cX10_laysRing 8 none d Q 2 [some (zK 10 0), some (zI v1), some (zI v2), some (zI s'), none, none, none, none] [] mm := fun s' e => ih (hc1 s' e)
    have ke : ∀ y : Int32, o1 = .inr (.inl y) → V E RX10 cX10_laysRing 8 none d Q 17 [some (zK 10 0), some (zI v1), some (zI v2), some (zI y), none, none, none, none] [] mm := fun y e => he y (he1 _ e)
    clear h hc1 he1 ih
    have h := h1
    clear h1
    unfold fX10_laysRing_L2 at h
    refine V_aload_n 3 rfl 0 dX10_laysRing_2 rfl rfl ?_
    refine V_iload_n 4 rfl 3 dX10_laysRing_3 rfl rfl ?_
    obtain ⟨x1, h1, h⟩ := zbd h
    refine V_cV 7 rfl 0 [zI s] [] dX10_laysRing_4 cv_X10_231 (ctX10_headOf (Nat.le_refl 0) h1) (Nat.le_trans (by decide) hd) rfl rfl (Nat.le_of_ble_eq_true rfl) zoki rfl ?_
    refine V_iconst 8 rfl (v := (-1)) dX10_laysRing_7 (by decide) ?_
    refine V_icmp_ne 11 17 rfl dX10_laysRing_8 (by decide) (fun c => ?_) (fun c => ?_)
    · have h := zneg c h
      exact ke s (zinj h)
    · have h := zpos c h
      refine V_iinc 14 rfl (s + 1) (L' := [some (zK 10 0), some (zI v1), some (zI v2), some (zI (s + 1)), none, none, none, none]) dX10_laysRing_11 rfl rfl (by decide) rfl ?_
      refine V_goto 2 dX10_laysRing_14 (by decide) ?_
      exact kc (s + 1) (zinj h)
theorem wX10_laysRing_L69 {E : zE} {d : Nat} (hd : 2 ≤ d) {Q : Option zV → zM → Prop} {v1 : Int32} {v2 : Int32} {v4 : Int32} {v5 : Int32} {mm : zM} {n : Nat} {s : (Int32 × Int32)} {o : Int32 ⊕ Empty} (h : zloop (fX10_laysRing_L69 v1 v2 v4 v5 mm) n s = some o) (he : ∀ y : Int32, o = .inl y → V E RX10 cX10_laysRing 8 none d Q 108 [some (zK 10 0), some (zI v1), some (zI v2), none, some (zI v4), some (zI v5), some (zI y), none] [] mm) : V E RX10 cX10_laysRing 8 none d Q 69 [some (zK 10 0), some (zI v1), some (zI v2), none, some (zI v4), some (zI v5), some (zI s.1), some (zI s.2)] [] mm := by
  induction n generalizing s with
  | zero => exact (zloop_0 h).elim
  | succ n ih =>
    obtain ⟨o1, h1, hc1, he1⟩ := zloop_s h
    have kc : ∀ s' : (Int32 × Int32), o1 = .inl s' → V E RX10 cX10_laysRing 8 none d Q 69 [some (zK 10 0), some (zI v1), some (zI v2), none, some (zI v4), some (zI v5), some (zI s'.1), some (zI s'.2)] [] mm := fun s' e => ih (hc1 s' e)
    have ke : ∀ y : Int32, o1 = .inr (.inl y) → V E RX10 cX10_laysRing 8 none d Q 108 [some (zK 10 0), some (zI v1), some (zI v2), none, some (zI v4), some (zI v5), some (zI y), none] [] mm := fun y e => he y (he1 _ e)
    clear h hc1 he1 ih
    have h := h1
    clear h1
    unfold fX10_laysRing_L69 at h
    refine V_iload 71 rfl dX10_laysRing_69 rfl ?_
    refine V_iload 73 rfl dX10_laysRing_71 rfl ?_
    refine V_icmp_ge 76 108 rfl dX10_laysRing_73 (by decide) (fun c => ?_) (fun c => ?_)
    · have h := zpos c h
      exact V_w (zsub_s (zsub_s (zsub_s (zsub_s (zsub_s (zsub_s (zsub_s (zsub_n zsub_0)))))))) (ke s.1 (zinj h))
    · have h := zneg c h
      refine V_aload_n 77 rfl 0 dX10_laysRing_76 rfl rfl ?_
      refine V_getr 80 rfl 47 0 dX10_laysRing_77 fl_X10_41 rfl rfl rfl ?_
      refine V_bipush 82 rfl (v := 12) dX10_laysRing_80 (by decide) ?_
      refine V_iload_n 83 rfl 1 dX10_laysRing_82 rfl rfl ?_
      refine V_imul 84 rfl dX10_laysRing_83 ?_
      refine V_iload 86 rfl dX10_laysRing_84 rfl ?_
      refine V_iadd 87 rfl dX10_laysRing_86 ?_
      obtain ⟨hi, h⟩ := zobd h
      refine V_iald 88 rfl dX10_laysRing_87 rfl hi ?_
      refine V_iload 90 rfl dX10_laysRing_88 rfl ?_
      refine V_icmp_ne 93 98 rfl dX10_laysRing_90 (by decide) (fun c => ?_) (fun c => ?_)
      · have h := zneg c h
        refine V_iload 100 rfl dX10_laysRing_98 rfl ?_
        refine V_istore 102 rfl (L' := [some (zK 10 0), some (zI v1), some (zI v2), none, some (zI v4), some (zI v5), some (zI s.1), some (zI s.2)]) dX10_laysRing_100 (by decide) rfl ?_
        refine V_iinc 105 rfl (s.2 + 1) (L' := [some (zK 10 0), some (zI v1), some (zI v2), none, some (zI v4), some (zI v5), some (zI s.1), some (zI (s.2 + 1))]) dX10_laysRing_102 rfl rfl (by decide) rfl ?_
        refine V_goto 69 dX10_laysRing_105 (by decide) ?_
        exact kc (s.1, (s.2 + 1)) (zinj h)
      · have h := zpos c h
        refine V_iload 95 rfl dX10_laysRing_93 rfl ?_
        refine V_goto 100 dX10_laysRing_95 (by decide) ?_
        refine V_istore 102 rfl (L' := [some (zK 10 0), some (zI v1), some (zI v2), none, some (zI v4), some (zI v5), some (zI s.2), some (zI s.2)]) dX10_laysRing_100 (by decide) rfl ?_
        refine V_iinc 105 rfl (s.2 + 1) (L' := [some (zK 10 0), some (zI v1), some (zI v2), none, some (zI v4), some (zI v5), some (zI s.2), some (zI (s.2 + 1))]) dX10_laysRing_102 rfl rfl (by decide) rfl ?_
        refine V_goto 69 dX10_laysRing_105 (by decide) ?_
        exact kc (s.2, (s.2 + 1)) (zinj h)
theorem wX10_laysRing_L30 {E : zE} {d : Nat} (hd : 2 ≤ d) {Q : Option zV → zM → Prop} {v1 : Int32} {v2 : Int32} {n : Nat} {s : (Int32 × Int32 × Int32 × zM)} {o : (Int32 × Int32 × zM) ⊕ Empty} (h : zloop (fX10_laysRing_L30 v1 v2) n s = some o) (he : ∀ y : (Int32 × Int32 × zM), o = .inl y → V E RX10 cX10_laysRing 8 none d Q 111 [some (zK 10 0), some (zI v1), none, none, some (zI y.1), none, some (zI y.2.1), none] [] y.2.2) : V E RX10 cX10_laysRing 8 none d Q 30 [some (zK 10 0), some (zI v1), some (zI v2), none, some (zI s.1), some (zI s.2.1), some (zI s.2.2.1), none] [] s.2.2.2 := by
  induction n generalizing s with
  | zero => exact (zloop_0 h).elim
  | succ n ih =>
    obtain ⟨o1, h1, hc1, he1⟩ := zloop_s h
    have kc : ∀ s' : (Int32 × Int32 × Int32 × zM), o1 = .inl s' → V E RX10 cX10_laysRing 8 none d Q 30 [some (zK 10 0), some (zI v1), some (zI v2), none, some (zI s'.1), some (zI s'.2.1), some (zI s'.2.2.1), none] [] s'.2.2.2 := fun s' e => ih (hc1 s' e)
    have ke : ∀ y : (Int32 × Int32 × zM), o1 = .inr (.inl y) → V E RX10 cX10_laysRing 8 none d Q 111 [some (zK 10 0), some (zI v1), none, none, some (zI y.1), none, some (zI y.2.1), none] [] y.2.2 := fun y e => he y (he1 _ e)
    clear h hc1 he1 ih
    have h := h1
    clear h1
    unfold fX10_laysRing_L30 at h
    refine V_iload 32 rfl dX10_laysRing_30 rfl ?_
    refine V_iconst 33 rfl (v := (-1)) dX10_laysRing_32 (by decide) ?_
    refine V_icmp_ne 36 111 rfl dX10_laysRing_33 (by decide) (fun c => ?_) (fun c => ?_)
    · have h := zneg c h
      exact V_w (zsub_s (zsub_s (zsub_n (zsub_s (zsub_s (zsub_n (zsub_s (zsub_s zsub_0)))))))) (ke (s.1, s.2.2.1, s.2.2.2) (zinj h))
    · have h := zpos c h
      refine V_aload_n 37 rfl 0 dX10_laysRing_36 rfl rfl ?_
      refine V_getr 40 rfl 47 0 dX10_laysRing_37 fl_X10_41 rfl rfl rfl ?_
      refine V_bipush 42 rfl (v := 12) dX10_laysRing_40 (by decide) ?_
      refine V_iload_n 43 rfl 1 dX10_laysRing_42 rfl rfl ?_
      refine V_imul 44 rfl dX10_laysRing_43 ?_
      refine V_iload 46 rfl dX10_laysRing_44 rfl ?_
      refine V_iadd 47 rfl dX10_laysRing_46 ?_
      refine V_iload 49 rfl dX10_laysRing_47 rfl ?_
      obtain ⟨hi, h⟩ := zobd h
      refine V_iast 50 rfl dX10_laysRing_49 rfl hi ?_
      refine V_iinc 53 rfl (s.1 + 1) (L' := [some (zK 10 0), some (zI v1), some (zI v2), none, some (zI (s.1 + 1)), some (zI s.2.1), some (zI s.2.2.1), none]) dX10_laysRing_50 rfl rfl (by decide) rfl ?_
      refine V_aload_n 54 rfl 0 dX10_laysRing_53 rfl rfl ?_
      refine V_aload_n 55 rfl 0 dX10_laysRing_54 rfl rfl ?_
      refine V_iload_n 56 rfl 2 dX10_laysRing_55 rfl rfl ?_
      refine V_iload 58 rfl dX10_laysRing_56 rfl ?_
      obtain ⟨x5, h1, h⟩ := zbd h
      refine V_cV 61 rfl 1 [zI v2, zI s.2.1] [zK 10 0] dX10_laysRing_58 cv_X10_234 (ctX10_tailOf (Nat.le_refl 1) h1) (Nat.le_trans (by decide) hd) rfl rfl (Nat.le_of_ble_eq_true rfl) zoki rfl ?_
      obtain ⟨x6, h1, h⟩ := zbd h
      refine V_cV 64 rfl 0 [zI x5] [] dX10_laysRing_61 cv_X10_231 (ctX10_headOf (Nat.le_refl 0) h1) (Nat.le_trans (by decide) hd) rfl rfl (Nat.le_of_ble_eq_true rfl) zoki rfl ?_
      refine V_istore 66 rfl (L' := [some (zK 10 0), some (zI v1), some (zI v2), none, some (zI (s.1 + 1)), some (zI x6), some (zI s.2.2.1), none]) dX10_laysRing_64 (by decide) rfl ?_
      refine V_iconst 67 rfl (v := 0) dX10_laysRing_66 (by decide) ?_
      refine V_istore 69 rfl (L' := [some (zK 10 0), some (zI v1), some (zI v2), none, some (zI (s.1 + 1)), some (zI x6), some (zI s.2.2.1), some (zI 0)]) dX10_laysRing_67 (by decide) rfl ?_
      obtain ⟨o9, h1, h⟩ := zbd h
      refine wX10_laysRing_L69 hd h1 (fun y7 e => ?_)
      have h := zcl_ e h
      refine V_goto 30 dX10_laysRing_108 (by decide) ?_
      exact kc ((s.1 + 1), x6, y7, (wi s.2.2.2 47 0 (zn ((((12 * v1)) + s.1))) s.2.1)) (zinj h)
theorem wX10_laysRing_L115 {E : zE} {d : Nat} (hd : 2 ≤ d) {Q : Option zV → zM → Prop} {v1 : Int32} {v4 : Int32} {v6 : Int32} {n : Nat} {s : (Int32 × zM)} {o : zM ⊕ Empty} (h : zloop (fX10_laysRing_L115 v1 v4 v6) n s = some o) (he : ∀ y : zM, o = .inl y → V E RX10 cX10_laysRing 8 none d Q 155 [some (zK 10 0), some (zI v1), none, none, some (zI v4), none, some (zI v6), none] [] y) : V E RX10 cX10_laysRing 8 none d Q 115 [some (zK 10 0), some (zI v1), none, none, some (zI v4), none, some (zI v6), some (zI s.1)] [] s.2 := by
  induction n generalizing s with
  | zero => exact (zloop_0 h).elim
  | succ n ih =>
    obtain ⟨o1, h1, hc1, he1⟩ := zloop_s h
    have kc : ∀ s' : (Int32 × zM), o1 = .inl s' → V E RX10 cX10_laysRing 8 none d Q 115 [some (zK 10 0), some (zI v1), none, none, some (zI v4), none, some (zI v6), some (zI s'.1)] [] s'.2 := fun s' e => ih (hc1 s' e)
    have ke : ∀ y : zM, o1 = .inr (.inl y) → V E RX10 cX10_laysRing 8 none d Q 155 [some (zK 10 0), some (zI v1), none, none, some (zI v4), none, some (zI v6), none] [] y := fun y e => he y (he1 _ e)
    clear h hc1 he1 ih
    have h := h1
    clear h1
    unfold fX10_laysRing_L115 at h
    refine V_iload 117 rfl dX10_laysRing_115 rfl ?_
    refine V_iload 119 rfl dX10_laysRing_117 rfl ?_
    refine V_icmp_ge 122 155 rfl dX10_laysRing_119 (by decide) (fun c => ?_) (fun c => ?_)
    · have h := zpos c h
      exact V_w (zsub_s (zsub_s (zsub_s (zsub_s (zsub_s (zsub_s (zsub_s (zsub_n zsub_0)))))))) (ke s.2 (zinj h))
    · have h := zneg c h
      refine V_aload_n 123 rfl 0 dX10_laysRing_122 rfl rfl ?_
      refine V_getr 126 rfl 47 0 dX10_laysRing_123 fl_X10_41 rfl rfl rfl ?_
      refine V_bipush 128 rfl (v := 12) dX10_laysRing_126 (by decide) ?_
      refine V_iload_n 129 rfl 1 dX10_laysRing_128 rfl rfl ?_
      refine V_imul 130 rfl dX10_laysRing_129 ?_
      refine V_iload 132 rfl dX10_laysRing_130 rfl ?_
      refine V_iadd 133 rfl dX10_laysRing_132 ?_
      refine V_iload 135 rfl dX10_laysRing_133 rfl ?_
      refine V_isub 136 rfl dX10_laysRing_135 ?_
      refine V_aload_n 137 rfl 0 dX10_laysRing_136 rfl rfl ?_
      refine V_getr 140 rfl 47 0 dX10_laysRing_137 fl_X10_41 rfl rfl rfl ?_
      refine V_bipush 142 rfl (v := 12) dX10_laysRing_140 (by decide) ?_
      refine V_iload_n 143 rfl 1 dX10_laysRing_142 rfl rfl ?_
      refine V_imul 144 rfl dX10_laysRing_143 ?_
      refine V_iload 146 rfl dX10_laysRing_144 rfl ?_
      refine V_iadd 147 rfl dX10_laysRing_146 ?_
      obtain ⟨hi, h⟩ := zobd h
      refine V_iald 148 rfl dX10_laysRing_147 rfl hi ?_
      obtain ⟨hi, h⟩ := zobd h
      refine V_iast 149 rfl dX10_laysRing_148 rfl hi ?_
      refine V_iinc 152 rfl (s.1 + 1) (L' := [some (zK 10 0), some (zI v1), none, none, some (zI v4), none, some (zI v6), some (zI (s.1 + 1))]) dX10_laysRing_149 rfl rfl (by decide) rfl ?_
      refine V_goto 115 dX10_laysRing_152 (by decide) ?_
      exact kc ((s.1 + 1), (wi s.2 47 0 (zn ((((((12 * v1)) + s.1)) - v6))) ((gi s.2 47 0 (zn ((((12 * v1)) + s.1))))))) (zinj h)
theorem wX10_laysRing {E : zE} {d : Nat} (hd : 2 ≤ d) {Q : Option zV → zM → Prop} {v1 : Int32} {v2 : Int32} {mm : zM} {o : zM} (h : fX10_laysRing v1 v2 mm = some o) (hQ : ∀ r, o = r → Q none r) : V E RX10 cX10_laysRing 8 none d Q 0 [some (zK 10 0), some (zI v1), some (zI v2), none, none, none, none, none] [] mm := by
  unfold fX10_laysRing at h
  refine V_iconst 1 rfl (v := 0) dX10_laysRing_0 (by decide) ?_
  refine V_istore_n 2 rfl 3 (L' := [some (zK 10 0), some (zI v1), some (zI v2), some (zI 0), none, none, none, none]) dX10_laysRing_1 rfl (by decide) rfl ?_
  obtain ⟨o16, h1, h⟩ := zbd h
  refine wX10_laysRing_L2 hd h1 (fun y2 e => ?_)
  have h := zcl_ e h
  refine V_iconst 18 rfl (v := 0) dX10_laysRing_17 (by decide) ?_
  refine V_istore 20 rfl (L' := [some (zK 10 0), some (zI v1), some (zI v2), some (zI y2), some (zI 0), none, none, none]) dX10_laysRing_18 (by decide) rfl ?_
  refine V_aload_n 21 rfl 0 dX10_laysRing_20 rfl rfl ?_
  refine V_iload_n 22 rfl 3 dX10_laysRing_21 rfl rfl ?_
  obtain ⟨x4, h1, h⟩ := zbd h
  refine V_cV 25 rfl 0 [zI y2] [] dX10_laysRing_22 cv_X10_231 (ctX10_headOf (Nat.le_refl 0) h1) (Nat.le_trans (by decide) hd) rfl rfl (Nat.le_of_ble_eq_true rfl) zoki rfl ?_
  refine V_istore 27 rfl (L' := [some (zK 10 0), some (zI v1), some (zI v2), some (zI y2), some (zI 0), some (zI x4), none, none]) dX10_laysRing_25 (by decide) rfl ?_
  refine V_iconst 28 rfl (v := (-1)) dX10_laysRing_27 (by decide) ?_
  refine V_istore 30 rfl (L' := [some (zK 10 0), some (zI v1), some (zI v2), some (zI y2), some (zI 0), some (zI x4), some (zI (-1)), none]) dX10_laysRing_28 (by decide) rfl ?_
  obtain ⟨o15, h1, h⟩ := zbd h
  refine V_w (zsub_s (zsub_s (zsub_s (zsub_n (zsub_s (zsub_s (zsub_s (zsub_s zsub_0)))))))) (wX10_laysRing_L30 hd h1 (fun y10 e => ?_))
  have h := zcl_ e h
  refine V_iload 113 rfl dX10_laysRing_111 rfl ?_
  refine V_istore 115 rfl (L' := [some (zK 10 0), some (zI v1), none, none, some (zI y10.1), none, some (zI y10.2.1), some (zI y10.2.1)]) dX10_laysRing_113 (by decide) rfl ?_
  obtain ⟨o14, h1, h⟩ := zbd h
  refine wX10_laysRing_L115 hd h1 (fun y12 e => ?_)
  have h := zcl_ e h
  refine V_aload_n 156 rfl 0 dX10_laysRing_155 rfl rfl ?_
  refine V_getr 159 rfl 48 0 dX10_laysRing_156 fl_X10_44 rfl rfl rfl ?_
  refine V_iload_n 160 rfl 1 dX10_laysRing_159 rfl rfl ?_
  refine V_iload 162 rfl dX10_laysRing_160 rfl ?_
  refine V_iload 164 rfl dX10_laysRing_162 rfl ?_
  refine V_isub 165 rfl dX10_laysRing_164 ?_
  obtain ⟨hi, h⟩ := zobd h
  refine V_iast 166 rfl dX10_laysRing_165 rfl hi ?_
  exact V_vret dX10_laysRing_166 rfl (hQ ((wi y12 48 0 (zn v1) ((y10.1 - y10.2.1)))) (zinj h))
theorem ctX10_laysRing {E : zE} {d : Nat} (hd : 2 ≤ d) {v1 : Int32} {v2 : Int32} {mm : zM} {o : zM} (h : fX10_laysRing v1 v2 mm = some o) : zOC E yX10_laysRing cX10_laysRing 8 none d [zK 10 0, zI v1, zI v2] mm none o :=
  zCT_of (by decide) (Nat.le_of_ble_eq_true rfl) (zk_k (zk_i (zk_i zk_0))) rfl (wX10_laysRing hd h (fun r e => ⟨rfl, by rw [e]⟩))
