def fX10_along_L5 (v1 : Int32) (v2 : Int32) (mm : zM) (s : (Int32 × Int32)) : Option ((Int32 × Int32) ⊕ (Int32 ⊕ Empty)) :=
  zob (zin v1 12) (if (gi mm 46 0 (zn v1)) ≤ s.2 then (some (.inr (.inl s.1))) else (zob (zin ((((12 * v1)) + s.2)) 144) ((fX10_flatSet ((gi mm 45 0 (zn ((((12 * v1)) + s.2))))) v2 mm).bind (fun x1 => some (.inl ((s.1 ||| x1), (s.2 + 1)))))))
def fX10_along (v1 : Int32) (v2 : Int32) (mm : zM) : Option Int32 :=
  (zloop (fX10_along_L5 v1 v2 mm) zF (0, 0)).bind (fun o4 => zcase o4 (fun y2 => some y2) (fun r3 => r3.elim))
theorem wX10_along_L5 {E : zE} {d : Nat} (hd : 3 ≤ d) {Q : Option zV → zM → Prop} {v1 : Int32} {v2 : Int32} {mm : zM} {n : Nat} {s : (Int32 × Int32)} {o : Int32 ⊕ Empty} (h : zloop (fX10_along_L5 v1 v2 mm) n s = some o) (he : ∀ y : Int32, o = .inl y → V E RX10 cX10_along 5 (some .int) d Q 42 [none, none, none, some (zI y), none] [] mm) : V E RX10 cX10_along 5 (some .int) d Q 5 [some (zK 10 0), some (zI v1), some (zI v2), some (zI s.1), some (zI s.2)] [] mm := by
  induction n generalizing s with
  | zero => exact (zloop_0 h).elim
  | succ n ih =>
    obtain ⟨o1, h1, hc1, he1⟩ := zloop_s h
    have kc : ∀ s' : (Int32 × Int32), o1 = .inl s' → V E RX10 cX10_along 5 (some .int) d Q 5 [some (zK 10 0), some (zI v1), some (zI v2), some (zI s'.1), some (zI s'.2)] [] mm := fun s' e => ih (hc1 s' e)
    have ke : ∀ y : Int32, o1 = .inr (.inl y) → V E RX10 cX10_along 5 (some .int) d Q 42 [none, none, none, some (zI y), none] [] mm := fun y e => he y (he1 _ e)
    clear h hc1 he1 ih
    have h := h1
    clear h1
    unfold fX10_along_L5 at h
    refine V_iload 7 rfl dX10_along_5 rfl ?_
    refine V_aload_n 8 rfl 0 dX10_along_7 rfl rfl ?_
    refine V_getr 11 rfl 46 0 dX10_along_8 fl_X10_38 rfl rfl rfl ?_
    refine V_iload_n 12 rfl 1 dX10_along_11 rfl rfl ?_
    obtain ⟨hi, h⟩ := zobd h
    refine V_iald 13 rfl dX10_along_12 rfl hi ?_
    refine V_icmp_ge 16 42 rfl dX10_along_13 (by decide) (fun c => ?_) (fun c => ?_)
    · have h := zpos c h
      exact V_w (zsub_n (zsub_n (zsub_n (zsub_s (zsub_n zsub_0))))) (ke s.1 (zinj h))
    · have h := zneg c h
      refine V_iload_n 17 rfl 3 dX10_along_16 rfl rfl ?_
      refine V_aload_n 18 rfl 0 dX10_along_17 rfl rfl ?_
      refine V_aload_n 19 rfl 0 dX10_along_18 rfl rfl ?_
      refine V_getr 22 rfl 45 0 dX10_along_19 fl_X10_35 rfl rfl rfl ?_
      refine V_bipush 24 rfl (v := 12) dX10_along_22 (by decide) ?_
      refine V_iload_n 25 rfl 1 dX10_along_24 rfl rfl ?_
      refine V_imul 26 rfl dX10_along_25 ?_
      refine V_iload 28 rfl dX10_along_26 rfl ?_
      refine V_iadd 29 rfl dX10_along_28 ?_
      obtain ⟨hi, h⟩ := zobd h
      refine V_iald 30 rfl dX10_along_29 rfl hi ?_
      refine V_iload_n 31 rfl 2 dX10_along_30 rfl rfl ?_
      obtain ⟨x1, h1, h⟩ := zbd h
      refine V_cV 34 rfl 2 [zI (gi mm 45 0 (zn ((((12 * v1)) + s.2)))), zI v2] [zI s.1] dX10_along_31 cv_X10_285 (ctX10_flatSet (Nat.le_refl 2) h1) (Nat.le_trans (by decide) hd) rfl rfl (Nat.le_of_ble_eq_true rfl) zoki rfl ?_
      refine V_ior 35 rfl dX10_along_34 ?_
      refine V_istore_n 36 rfl 3 (L' := [some (zK 10 0), some (zI v1), some (zI v2), some (zI (s.1 ||| x1)), some (zI s.2)]) dX10_along_35 rfl (by decide) rfl ?_
      refine V_iinc 39 rfl (s.2 + 1) (L' := [some (zK 10 0), some (zI v1), some (zI v2), some (zI (s.1 ||| x1)), some (zI (s.2 + 1))]) dX10_along_36 rfl rfl (by decide) rfl ?_
      refine V_goto 5 dX10_along_39 (by decide) ?_
      exact kc ((s.1 ||| x1), (s.2 + 1)) (zinj h)
theorem wX10_along {E : zE} {d : Nat} (hd : 3 ≤ d) {Q : Option zV → zM → Prop} {v1 : Int32} {v2 : Int32} {mm : zM} {o : Int32} (h : fX10_along v1 v2 mm = some o) (hQ : ∀ r, o = r → Q (some (zI r)) mm) : V E RX10 cX10_along 5 (some .int) d Q 0 [some (zK 10 0), some (zI v1), some (zI v2), none, none] [] mm := by
  unfold fX10_along at h
  refine V_iconst 1 rfl (v := 0) dX10_along_0 (by decide) ?_
  refine V_istore_n 2 rfl 3 (L' := [some (zK 10 0), some (zI v1), some (zI v2), some (zI 0), none]) dX10_along_1 rfl (by decide) rfl ?_
  refine V_iconst 3 rfl (v := 0) dX10_along_2 (by decide) ?_
  refine V_istore 5 rfl (L' := [some (zK 10 0), some (zI v1), some (zI v2), some (zI 0), some (zI 0)]) dX10_along_3 (by decide) rfl ?_
  obtain ⟨o4, h1, h⟩ := zbd h
  refine wX10_along_L5 hd h1 (fun y2 e => ?_)
  have h := zcl_ e h
  refine V_iload_n 43 rfl 3 dX10_along_42 rfl rfl ?_
  exact V_iret dX10_along_43 rfl (hQ y2 (zinj h))
theorem ctX10_along {E : zE} {d : Nat} (hd : 3 ≤ d) {v1 : Int32} {v2 : Int32} {mm : zM} {o : Int32} (h : fX10_along v1 v2 mm = some o) : zOC E yX10_along cX10_along 5 (some .int) d [zK 10 0, zI v1, zI v2] mm (some (zI o)) mm :=
  zCT_of (by decide) (Nat.le_of_ble_eq_true rfl) (zk_k (zk_i (zk_i zk_0))) rfl (wX10_along hd h (fun r e => ⟨by rw [e], rfl⟩))
def fX10_lacksOf (v1 : Int32) (mm : zM) : Option Int32 :=
  (fX10_along v1 2 mm).bind (fun x1 => (fX10_along v1 1 mm).bind (fun x2 => (fX10_along v1 3 mm).bind (fun x3 => some ((((x1 &&& ((x2 ^^^ ((-1)))))) &&& ((x3 ^^^ ((-1)))))))))
theorem wX10_lacksOf {E : zE} {d : Nat} (hd : 4 ≤ d) {Q : Option zV → zM → Prop} {v1 : Int32} {mm : zM} {o : Int32} (h : fX10_lacksOf v1 mm = some o) (hQ : ∀ r, o = r → Q (some (zI r)) mm) : V E RX10 cX10_lacksOf 2 (some .int) d Q 0 [some (zK 10 0), some (zI v1)] [] mm := by
  unfold fX10_lacksOf at h
  refine V_aload_n 1 rfl 0 dX10_lacksOf_0 rfl rfl ?_
  refine V_iload_n 2 rfl 1 dX10_lacksOf_1 rfl rfl ?_
  refine V_iconst 3 rfl (v := 2) dX10_lacksOf_2 (by decide) ?_
  obtain ⟨x1, h1, h⟩ := zbd h
  refine V_cV 6 rfl 3 [zI v1, zI 2] [] dX10_lacksOf_3 cv_X10_342 (ctX10_along (Nat.le_refl 3) h1) (Nat.le_trans (by decide) hd) rfl rfl (Nat.le_of_ble_eq_true rfl) zoki rfl ?_
  refine V_aload_n 7 rfl 0 dX10_lacksOf_6 rfl rfl ?_
  refine V_iload_n 8 rfl 1 dX10_lacksOf_7 rfl rfl ?_
  refine V_iconst 9 rfl (v := 1) dX10_lacksOf_8 (by decide) ?_
  obtain ⟨x2, h1, h⟩ := zbd h
  refine V_cV 12 rfl 3 [zI v1, zI 1] [zI x1] dX10_lacksOf_9 cv_X10_342 (ctX10_along (Nat.le_refl 3) h1) (Nat.le_trans (by decide) hd) rfl rfl (Nat.le_of_ble_eq_true rfl) zoki rfl ?_
  refine V_iconst 13 rfl (v := (-1)) dX10_lacksOf_12 (by decide) ?_
  refine V_ixor 14 rfl dX10_lacksOf_13 ?_
  refine V_iand 15 rfl dX10_lacksOf_14 ?_
  refine V_aload_n 16 rfl 0 dX10_lacksOf_15 rfl rfl ?_
  refine V_iload_n 17 rfl 1 dX10_lacksOf_16 rfl rfl ?_
  refine V_iconst 18 rfl (v := 3) dX10_lacksOf_17 (by decide) ?_
  obtain ⟨x3, h1, h⟩ := zbd h
  refine V_cV 21 rfl 3 [zI v1, zI 3] [zI (x1 &&& ((x2 ^^^ ((-1)))))] dX10_lacksOf_18 cv_X10_342 (ctX10_along (Nat.le_refl 3) h1) (Nat.le_trans (by decide) hd) rfl rfl (Nat.le_of_ble_eq_true rfl) zoki rfl ?_
  refine V_iconst 22 rfl (v := (-1)) dX10_lacksOf_21 (by decide) ?_
  refine V_ixor 23 rfl dX10_lacksOf_22 ?_
  refine V_iand 24 rfl dX10_lacksOf_23 ?_
  exact V_iret dX10_lacksOf_24 rfl (hQ ((((x1 &&& ((x2 ^^^ ((-1)))))) &&& ((x3 ^^^ ((-1)))))) (zinj h))
theorem ctX10_lacksOf {E : zE} {d : Nat} (hd : 4 ≤ d) {v1 : Int32} {mm : zM} {o : Int32} (h : fX10_lacksOf v1 mm = some o) : zOC E yX10_lacksOf cX10_lacksOf 2 (some .int) d [zK 10 0, zI v1] mm (some (zI o)) mm :=
  zCT_of (by decide) (Nat.le_of_ble_eq_true rfl) (zk_k (zk_i zk_0)) rfl (wX10_lacksOf hd h (fun r e => ⟨by rw [e], rfl⟩))
def fX10_lacks (v1 : Int32) (mm : zM) : Option (Int32 × zM) :=
  (fX10_isType v1 mm).bind (fun x1 => if x1 = 0 then (some (((-1), mm))) else ((fX10_lays_ mm).bind (fun x2 => zob (zin v1 12) (if (gi x2 46 0 (zn v1)) = 0 then (some (((-1), x2))) else ((fX10_lacksOf v1 x2).bind (fun x3 => some ((x3, x2))))))))
theorem wX10_lacks {E : zE} {d : Nat} (hd : 5 ≤ d) {Q : Option zV → zM → Prop} {v1 : Int32} {mm : zM} {o : (Int32 × zM)} (h : fX10_lacks v1 mm = some o) (hQ : ∀ r, o = r → Q (some (zI r.1)) r.2) : V E RX10 cX10_lacks 2 (some .int) d Q 0 [some (zK 10 0), some (zI v1)] [] mm := by
  unfold fX10_lacks at h
  refine V_aload_n 1 rfl 0 dX10_lacks_0 rfl rfl ?_
  refine V_iload_n 2 rfl 1 dX10_lacks_1 rfl rfl ?_
  obtain ⟨x1, h1, h⟩ := zbd h
  refine V_cV 5 rfl 2 [zI v1] [] dX10_lacks_2 cv_X10_258 (ctX10_isType (Nat.le_refl 2) h1) (Nat.le_trans (by decide) hd) rfl rfl (Nat.le_of_ble_eq_true rfl) zoki rfl ?_
  refine V_if_ne 8 10 rfl dX10_lacks_5 (by decide) (fun c => ?_) (fun c => ?_)
  · have h := zneg c h
    refine V_aload_n 11 rfl 0 dX10_lacks_10 rfl rfl ?_
    obtain ⟨x2, h1, h⟩ := zbd h
    refine V_cV 14 rfl 4 [] [] dX10_lacks_11 cv_X10_279 (ctX10_lays_ (Nat.le_refl 4) h1) (Nat.le_trans (by decide) hd) rfl rfl (Nat.le_of_ble_eq_true rfl) zokn rfl ?_
    refine V_aload_n 15 rfl 0 dX10_lacks_14 rfl rfl ?_
    refine V_getr 18 rfl 46 0 dX10_lacks_15 fl_X10_38 rfl rfl rfl ?_
    refine V_iload_n 19 rfl 1 dX10_lacks_18 rfl rfl ?_
    obtain ⟨hi, h⟩ := zobd h
    refine V_iald 20 rfl dX10_lacks_19 rfl hi ?_
    refine V_if_ne 23 27 rfl dX10_lacks_20 (by decide) (fun c => ?_) (fun c => ?_)
    · have h := zneg c h
      refine V_aload_n 28 rfl 0 dX10_lacks_27 rfl rfl ?_
      refine V_iload_n 29 rfl 1 dX10_lacks_28 rfl rfl ?_
      obtain ⟨x3, h1, h⟩ := zbd h
      refine V_cV 32 rfl 4 [zI v1] [] dX10_lacks_29 cv_X10_345 (ctX10_lacksOf (Nat.le_refl 4) h1) (Nat.le_trans (by decide) hd) rfl rfl (Nat.le_of_ble_eq_true rfl) zoki rfl ?_
      exact V_iret dX10_lacks_32 rfl (hQ ((x3, x2)) (zinj h))
    · have h := zpos c h
      refine V_iconst 24 rfl (v := (-1)) dX10_lacks_23 (by decide) ?_
      refine V_goto 32 dX10_lacks_24 (by decide) ?_
      exact V_iret dX10_lacks_32 rfl (hQ (((-1), x2)) (zinj h))
  · have h := zpos c h
    refine V_iconst 9 rfl (v := (-1)) dX10_lacks_8 (by decide) ?_
    exact V_iret dX10_lacks_9 rfl (hQ (((-1), mm)) (zinj h))
theorem ctX10_lacks {E : zE} {d : Nat} (hd : 5 ≤ d) {v1 : Int32} {mm : zM} {o : (Int32 × zM)} (h : fX10_lacks v1 mm = some o) : zOC E yX10_lacks cX10_lacks 2 (some .int) d [zK 10 0, zI v1] mm (some (zI o.1)) o.2 :=
  zCT_of (by decide) (Nat.le_of_ble_eq_true rfl) (zk_k (zk_i zk_0)) rfl (wX10_lacks hd h (fun r e => ⟨by rw [e], by rw [e]⟩))
def fX10_answers_L18 (v1 : Int32) (s : (Int32 × Int32 × zM)) : Option ((Int32 × Int32 × zM) ⊕ ((Int32 × zM) ⊕ Empty)) :=
  if 26 ≤ s.2.1 then (some (.inr (.inl (s.1, s.2.2)))) else ((fX10_sends v1 s.2.1 s.2.2).bind (fun x3 => if (gi x3.2 10 0 23) = 0 then (some (.inl ((s.1 ||| ((1 <<< (s.2.1 &&& 31)))), (s.2.1 + 1), x3.2))) else (some (.inl ((s.1 ||| 0), (s.2.1 + 1), x3.2)))))
def fX10_answers (v1 : Int32) (mm : zM) : Option (Int32 × zM) :=
  (fX10_isType v1 mm).bind (fun x1 => if x1 = 0 then (some (((-1), mm))) else ((fX10_lays_ mm).bind (fun x2 => (zloop (fX10_answers_L18 v1) zF (0, 0, x2)).bind (fun o6 => zcase o6 (fun y4 => some ((y4.1, y4.2))) (fun r5 => r5.elim)))))
theorem wX10_answers_L18 {E : zE} {d : Nat} (hd : 45 ≤ d) {Q : Option zV → zM → Prop} {v1 : Int32} {n : Nat} {s : (Int32 × Int32 × zM)} {o : (Int32 × zM) ⊕ Empty} (h : zloop (fX10_answers_L18 v1) n s = some o) (he : ∀ y : (Int32 × zM), o = .inl y → V E RX10 cX10_answers 5 (some .int) d Q 55 [none, none, some (zI y.1), none, none] [] y.2) : V E RX10 cX10_answers 5 (some .int) d Q 18 [some (zK 10 0), some (zI v1), some (zI s.1), some (zI s.2.1), none] [] s.2.2 := by
  induction n generalizing s with
  | zero => exact (zloop_0 h).elim
  | succ n ih =>
    obtain ⟨o1, h1, hc1, he1⟩ := zloop_s h
    have kc : ∀ s' : (Int32 × Int32 × zM), o1 = .inl s' → V E RX10 cX10_answers 5 (some .int) d Q 18 [some (zK 10 0), some (zI v1), some (zI s'.1), some (zI s'.2.1), none] [] s'.2.2 := fun s' e => ih (hc1 s' e)
    have ke : ∀ y : (Int32 × zM), o1 = .inr (.inl y) → V E RX10 cX10_answers 5 (some .int) d Q 55 [none, none, some (zI y.1), none, none] [] y.2 := fun y e => he y (he1 _ e)
    clear h hc1 he1 ih
    have h := h1
    clear h1
    unfold fX10_answers_L18 at h
    refine V_iload_n 19 rfl 3 dX10_answers_18 rfl rfl ?_
    refine V_bipush 21 rfl (v := 26) dX10_answers_19 (by decide) ?_
    refine V_icmp_ge 24 55 rfl dX10_answers_21 (by decide) (fun c => ?_) (fun c => ?_)
    · have h := zpos c h
      exact V_w (zsub_n (zsub_n (zsub_s (zsub_n (zsub_s zsub_0))))) (ke (s.1, s.2.2) (zinj h))
    · have h := zneg c h
      refine V_aload_n 25 rfl 0 dX10_answers_24 rfl rfl ?_
      refine V_iload_n 26 rfl 1 dX10_answers_25 rfl rfl ?_
      refine V_iload_n 27 rfl 3 dX10_answers_26 rfl rfl ?_
      obtain ⟨x3, h1, h⟩ := zbd h
      refine V_cV 30 rfl 44 [zI v1, zI s.2.1] [] dX10_answers_27 cv_X10_339 (ctX10_sends (Nat.le_refl 44) h1) (Nat.le_trans (by decide) hd) rfl rfl (Nat.le_of_ble_eq_true rfl) zoki rfl ?_
      refine V_istore 32 rfl (L' := [some (zK 10 0), some (zI v1), some (zI s.1), some (zI s.2.1), some (zI x3.1)]) dX10_answers_30 (by decide) rfl ?_
      refine V_iload_n 33 rfl 2 dX10_answers_32 rfl rfl ?_
      refine V_aload_n 34 rfl 0 dX10_answers_33 rfl rfl ?_
      refine V_geti 37 rfl dX10_answers_34 fl_X10_306 rfl ?_
      refine V_if_ne 40 46 rfl dX10_answers_37 (by decide) (fun c => ?_) (fun c => ?_)
      · have h := zneg c h
        refine V_iconst 47 rfl (v := 0) dX10_answers_46 (by decide) ?_
        refine V_ior 48 rfl dX10_answers_47 ?_
        refine V_istore_n 49 rfl 2 (L' := [some (zK 10 0), some (zI v1), some (zI (s.1 ||| 0)), some (zI s.2.1), some (zI x3.1)]) dX10_answers_48 rfl (by decide) rfl ?_
        refine V_iinc 52 rfl (s.2.1 + 1) (L' := [some (zK 10 0), some (zI v1), some (zI (s.1 ||| 0)), some (zI (s.2.1 + 1)), some (zI x3.1)]) dX10_answers_49 rfl rfl (by decide) rfl ?_
        refine V_goto 18 dX10_answers_52 (by decide) ?_
        exact V_w (zsub_s (zsub_s (zsub_s (zsub_s (zsub_n zsub_0))))) (kc ((s.1 ||| 0), (s.2.1 + 1), x3.2) (zinj h))
      · have h := zpos c h
        refine V_iconst 41 rfl (v := 1) dX10_answers_40 (by decide) ?_
        refine V_iload_n 42 rfl 3 dX10_answers_41 rfl rfl ?_
        refine V_ishl 43 rfl dX10_answers_42 ?_
        refine V_goto 47 dX10_answers_43 (by decide) ?_
        refine V_ior 48 rfl dX10_answers_47 ?_
        refine V_istore_n 49 rfl 2 (L' := [some (zK 10 0), some (zI v1), some (zI (s.1 ||| ((1 <<< (s.2.1 &&& 31))))), some (zI s.2.1), some (zI x3.1)]) dX10_answers_48 rfl (by decide) rfl ?_
        refine V_iinc 52 rfl (s.2.1 + 1) (L' := [some (zK 10 0), some (zI v1), some (zI (s.1 ||| ((1 <<< (s.2.1 &&& 31))))), some (zI (s.2.1 + 1)), some (zI x3.1)]) dX10_answers_49 rfl rfl (by decide) rfl ?_
        refine V_goto 18 dX10_answers_52 (by decide) ?_
        exact V_w (zsub_s (zsub_s (zsub_s (zsub_s (zsub_n zsub_0))))) (kc ((s.1 ||| ((1 <<< (s.2.1 &&& 31)))), (s.2.1 + 1), x3.2) (zinj h))
theorem wX10_answers {E : zE} {d : Nat} (hd : 45 ≤ d) {Q : Option zV → zM → Prop} {v1 : Int32} {mm : zM} {o : (Int32 × zM)} (h : fX10_answers v1 mm = some o) (hQ : ∀ r, o = r → Q (some (zI r.1)) r.2) : V E RX10 cX10_answers 5 (some .int) d Q 0 [some (zK 10 0), some (zI v1), none, none, none] [] mm := by
  unfold fX10_answers at h
  refine V_aload_n 1 rfl 0 dX10_answers_0 rfl rfl ?_
  refine V_iload_n 2 rfl 1 dX10_answers_1 rfl rfl ?_
  obtain ⟨x1, h1, h⟩ := zbd h
  refine V_cV 5 rfl 2 [zI v1] [] dX10_answers_2 cv_X10_258 (ctX10_isType (Nat.le_refl 2) h1) (Nat.le_trans (by decide) hd) rfl rfl (Nat.le_of_ble_eq_true rfl) zoki rfl ?_
  refine V_if_ne 8 10 rfl dX10_answers_5 (by decide) (fun c => ?_) (fun c => ?_)
  · have h := zneg c h
    refine V_aload_n 11 rfl 0 dX10_answers_10 rfl rfl ?_
    obtain ⟨x2, h1, h⟩ := zbd h
    refine V_cV 14 rfl 4 [] [] dX10_answers_11 cv_X10_279 (ctX10_lays_ (Nat.le_refl 4) h1) (Nat.le_trans (by decide) hd) rfl rfl (Nat.le_of_ble_eq_true rfl) zokn rfl ?_
    refine V_iconst 15 rfl (v := 0) dX10_answers_14 (by decide) ?_
    refine V_istore_n 16 rfl 2 (L' := [some (zK 10 0), some (zI v1), some (zI 0), none, none]) dX10_answers_15 rfl (by decide) rfl ?_
    refine V_iconst 17 rfl (v := 0) dX10_answers_16 (by decide) ?_
    refine V_istore_n 18 rfl 3 (L' := [some (zK 10 0), some (zI v1), some (zI 0), some (zI 0), none]) dX10_answers_17 rfl (by decide) rfl ?_
    obtain ⟨o6, h1, h⟩ := zbd h
    refine wX10_answers_L18 hd h1 (fun y4 e => ?_)
    have h := zcl_ e h
    refine V_iload_n 56 rfl 2 dX10_answers_55 rfl rfl ?_
    exact V_iret dX10_answers_56 rfl (hQ ((y4.1, y4.2)) (zinj h))
  · have h := zpos c h
    refine V_iconst 9 rfl (v := (-1)) dX10_answers_8 (by decide) ?_
    exact V_iret dX10_answers_9 rfl (hQ (((-1), mm)) (zinj h))
theorem ctX10_answers {E : zE} {d : Nat} (hd : 45 ≤ d) {v1 : Int32} {mm : zM} {o : (Int32 × zM)} (h : fX10_answers v1 mm = some o) : zOC E yX10_answers cX10_answers 5 (some .int) d [zK 10 0, zI v1] mm (some (zI o.1)) o.2 :=
  zCT_of (by decide) (Nat.le_of_ble_eq_true rfl) (zk_k (zk_i zk_0)) rfl (wX10_answers hd h (fun r e => ⟨by rw [e], by rw [e]⟩))
def fX10_alike_L24 (v1 : Int32) (v2 : Int32) (s : (Int32 × zM)) : Option ((Int32 × zM) ⊕ (zM ⊕ (Int32 × zM))) :=
  if 26 ≤ s.1 then (some (.inr (.inl s.2))) else ((fX10_sends v1 s.1 s.2).bind (fun x4 => (fX10_sends v2 s.1 x4.2).bind (fun x5 => if x5.1 = x4.1 then (if (gi x5.2 10 0 23) = (gi x4.2 10 0 23) then (some (.inl ((s.1 + 1), x5.2))) else (some (.inr (.inr ((0, x5.2)))))) else (some (.inr (.inr ((0, x5.2))))))))
def fX10_alike (v1 : Int32) (v2 : Int32) (mm : zM) : Option (Int32 × zM) :=
  (fX10_isType v1 mm).bind (fun x1 => if x1 = 0 then (some (((-1), mm))) else ((fX10_isType v2 mm).bind (fun x2 => if x2 = 0 then (some (((-1), mm))) else ((fX10_lays_ mm).bind (fun x3 => (zloop (fX10_alike_L24 v1 v2) zF (0, x3)).bind (fun o8 => zcase o8 (fun y6 => some ((1, y6))) (fun r7 => some r7)))))))
theorem wX10_alike_L24 {E : zE} {d : Nat} (hd : 45 ≤ d) {Q : Option zV → zM → Prop} {v1 : Int32} {v2 : Int32} {n : Nat} {s : (Int32 × zM)} {o : zM ⊕ (Int32 × zM)} (h : zloop (fX10_alike_L24 v1 v2) n s = some o) (he : ∀ y : zM, o = .inl y → V E RX10 cX10_alike 6 (some .int) d Q 72 [none, none, none, none, none, none] [] y) (hr : ∀ r : (Int32 × zM), o = .inr r → Q (some (zI r.1)) r.2) : V E RX10 cX10_alike 6 (some .int) d Q 24 [some (zK 10 0), some (zI v1), some (zI v2), some (zI s.1), none, none] [] s.2 := by
  induction n generalizing s with
  | zero => exact (zloop_0 h).elim
  | succ n ih =>
    obtain ⟨o1, h1, hc1, he1⟩ := zloop_s h
    have kc : ∀ s' : (Int32 × zM), o1 = .inl s' → V E RX10 cX10_alike 6 (some .int) d Q 24 [some (zK 10 0), some (zI v1), some (zI v2), some (zI s'.1), none, none] [] s'.2 := fun s' e => ih (hc1 s' e)
    have ke : ∀ y : zM, o1 = .inr (.inl y) → V E RX10 cX10_alike 6 (some .int) d Q 72 [none, none, none, none, none, none] [] y := fun y e => he y (he1 _ e)
    have kr : ∀ r : (Int32 × zM), o1 = .inr (.inr r) → Q (some (zI r.1)) r.2 := fun r e => hr r (he1 _ e)
    clear h hc1 he1 ih
    have h := h1
    clear h1
    unfold fX10_alike_L24 at h
    refine V_iload_n 25 rfl 3 dX10_alike_24 rfl rfl ?_
    refine V_bipush 27 rfl (v := 26) dX10_alike_25 (by decide) ?_
    refine V_icmp_ge 30 72 rfl dX10_alike_27 (by decide) (fun c => ?_) (fun c => ?_)
    · have h := zpos c h
      exact V_w (zsub_n (zsub_n (zsub_n (zsub_n (zsub_s (zsub_s zsub_0)))))) (ke s.2 (zinj h))
    · have h := zneg c h
      refine V_aload_n 31 rfl 0 dX10_alike_30 rfl rfl ?_
      refine V_iload_n 32 rfl 1 dX10_alike_31 rfl rfl ?_
      refine V_iload_n 33 rfl 3 dX10_alike_32 rfl rfl ?_
      obtain ⟨x4, h1, h⟩ := zbd h
      refine V_cV 36 rfl 44 [zI v1, zI s.1] [] dX10_alike_33 cv_X10_339 (ctX10_sends (Nat.le_refl 44) h1) (Nat.le_trans (by decide) hd) rfl rfl (Nat.le_of_ble_eq_true rfl) zoki rfl ?_
      refine V_istore 38 rfl (L' := [some (zK 10 0), some (zI v1), some (zI v2), some (zI s.1), some (zI x4.1), none]) dX10_alike_36 (by decide) rfl ?_
      refine V_aload_n 39 rfl 0 dX10_alike_38 rfl rfl ?_
      refine V_geti 42 rfl dX10_alike_39 fl_X10_306 rfl ?_
      refine V_istore 44 rfl (L' := [some (zK 10 0), some (zI v1), some (zI v2), some (zI s.1), some (zI x4.1), some (zI (gi x4.2 10 0 23))]) dX10_alike_42 (by decide) rfl ?_
      refine V_aload_n 45 rfl 0 dX10_alike_44 rfl rfl ?_
      refine V_iload_n 46 rfl 2 dX10_alike_45 rfl rfl ?_
      refine V_iload_n 47 rfl 3 dX10_alike_46 rfl rfl ?_
      obtain ⟨x5, h1, h⟩ := zbd h
      refine V_cV 50 rfl 44 [zI v2, zI s.1] [] dX10_alike_47 cv_X10_339 (ctX10_sends (Nat.le_refl 44) h1) (Nat.le_trans (by decide) hd) rfl rfl (Nat.le_of_ble_eq_true rfl) zoki rfl ?_
      refine V_iload 52 rfl dX10_alike_50 rfl ?_
      refine V_icmp_ne 55 64 rfl dX10_alike_52 (by decide) (fun c => ?_) (fun c => ?_)
      · have h := zneg c h
        refine V_iconst 65 rfl (v := 0) dX10_alike_64 (by decide) ?_
        exact V_iret dX10_alike_65 rfl (kr ((0, x5.2)) (zinj h))
      · have h := zpos c h
        refine V_aload_n 56 rfl 0 dX10_alike_55 rfl rfl ?_
        refine V_geti 59 rfl dX10_alike_56 fl_X10_306 rfl ?_
        refine V_iload 61 rfl dX10_alike_59 rfl ?_
        refine V_icmp_eq 64 66 rfl dX10_alike_61 (by decide) (fun c => ?_) (fun c => ?_)
        · have h := zpos c h
          refine V_iinc 69 rfl (s.1 + 1) (L' := [some (zK 10 0), some (zI v1), some (zI v2), some (zI (s.1 + 1)), some (zI x4.1), some (zI (gi x4.2 10 0 23))]) dX10_alike_66 rfl rfl (by decide) rfl ?_
          refine V_goto 24 dX10_alike_69 (by decide) ?_
          exact V_w (zsub_s (zsub_s (zsub_s (zsub_s (zsub_n (zsub_n zsub_0)))))) (kc ((s.1 + 1), x5.2) (zinj h))
        · have h := zneg c h
          refine V_iconst 65 rfl (v := 0) dX10_alike_64 (by decide) ?_
          exact V_iret dX10_alike_65 rfl (kr ((0, x5.2)) (zinj h))
theorem wX10_alike {E : zE} {d : Nat} (hd : 45 ≤ d) {Q : Option zV → zM → Prop} {v1 : Int32} {v2 : Int32} {mm : zM} {o : (Int32 × zM)} (h : fX10_alike v1 v2 mm = some o) (hQ : ∀ r, o = r → Q (some (zI r.1)) r.2) : V E RX10 cX10_alike 6 (some .int) d Q 0 [some (zK 10 0), some (zI v1), some (zI v2), none, none, none] [] mm := by
  unfold fX10_alike at h
  refine V_aload_n 1 rfl 0 dX10_alike_0 rfl rfl ?_
  refine V_iload_n 2 rfl 1 dX10_alike_1 rfl rfl ?_
  obtain ⟨x1, h1, h⟩ := zbd h
  refine V_cV 5 rfl 2 [zI v1] [] dX10_alike_2 cv_X10_258 (ctX10_isType (Nat.le_refl 2) h1) (Nat.le_trans (by decide) hd) rfl rfl (Nat.le_of_ble_eq_true rfl) zoki rfl ?_
  refine V_if_eq 8 16 rfl dX10_alike_5 (by decide) (fun c => ?_) (fun c => ?_)
  · have h := zpos c h
    refine V_iconst 17 rfl (v := (-1)) dX10_alike_16 (by decide) ?_
    exact V_iret dX10_alike_17 rfl (hQ (((-1), mm)) (zinj h))
  · have h := zneg c h
    refine V_aload_n 9 rfl 0 dX10_alike_8 rfl rfl ?_
    refine V_iload_n 10 rfl 2 dX10_alike_9 rfl rfl ?_
    obtain ⟨x2, h1, h⟩ := zbd h
    refine V_cV 13 rfl 2 [zI v2] [] dX10_alike_10 cv_X10_258 (ctX10_isType (Nat.le_refl 2) h1) (Nat.le_trans (by decide) hd) rfl rfl (Nat.le_of_ble_eq_true rfl) zoki rfl ?_
    refine V_if_ne 16 18 rfl dX10_alike_13 (by decide) (fun c => ?_) (fun c => ?_)
    · have h := zneg c h
      refine V_aload_n 19 rfl 0 dX10_alike_18 rfl rfl ?_
      obtain ⟨x3, h1, h⟩ := zbd h
      refine V_cV 22 rfl 4 [] [] dX10_alike_19 cv_X10_279 (ctX10_lays_ (Nat.le_refl 4) h1) (Nat.le_trans (by decide) hd) rfl rfl (Nat.le_of_ble_eq_true rfl) zokn rfl ?_
      refine V_iconst 23 rfl (v := 0) dX10_alike_22 (by decide) ?_
      refine V_istore_n 24 rfl 3 (L' := [some (zK 10 0), some (zI v1), some (zI v2), some (zI 0), none, none]) dX10_alike_23 rfl (by decide) rfl ?_
      obtain ⟨o8, h1, h⟩ := zbd h
      refine wX10_alike_L24 hd h1 (fun y6 e => ?_) (fun r e => by have h := zcr_ e h; exact hQ r (zinj h))
      have h := zcl_ e h
      refine V_iconst 73 rfl (v := 1) dX10_alike_72 (by decide) ?_
      exact V_iret dX10_alike_73 rfl (hQ ((1, y6)) (zinj h))
    · have h := zpos c h
      refine V_iconst 17 rfl (v := (-1)) dX10_alike_16 (by decide) ?_
      exact V_iret dX10_alike_17 rfl (hQ (((-1), mm)) (zinj h))
theorem ctX10_alike {E : zE} {d : Nat} (hd : 45 ≤ d) {v1 : Int32} {v2 : Int32} {mm : zM} {o : (Int32 × zM)} (h : fX10_alike v1 v2 mm = some o) : zOC E yX10_alike cX10_alike 6 (some .int) d [zK 10 0, zI v1, zI v2] mm (some (zI o.1)) o.2 :=
  zCT_of (by decide) (Nat.le_of_ble_eq_true rfl) (zk_k (zk_i (zk_i zk_0))) rfl (wX10_alike hd h (fun r e => ⟨by rw [e], by rw [e]⟩))
def fX10_origins (v1 : Int32) (v2 : Int32) (mm : zM) : Option (Int32 × zM) :=
  (fX10_isType v1 mm).bind (fun x1 => if x1 = 0 then (some (((-1), mm))) else ((fX10_in v2 0 25 mm).bind (fun x2 => if x2 = 0 then (some (((-1), mm))) else ((fX10_lays_ mm).bind (fun x3 => (fX10_sends v1 v2 x3).bind (fun x4 => some (((gi x4.2 10 0 28), x4.2))))))))
theorem wX10_origins {E : zE} {d : Nat} (hd : 45 ≤ d) {Q : Option zV → zM → Prop} {v1 : Int32} {v2 : Int32} {mm : zM} {o : (Int32 × zM)} (h : fX10_origins v1 v2 mm = some o) (hQ : ∀ r, o = r → Q (some (zI r.1)) r.2) : V E RX10 cX10_origins 4 (some .int) d Q 0 [some (zK 10 0), some (zI v1), some (zI v2), none] [] mm := by
  unfold fX10_origins at h
  refine V_aload_n 1 rfl 0 dX10_origins_0 rfl rfl ?_
  refine V_iload_n 2 rfl 1 dX10_origins_1 rfl rfl ?_
  obtain ⟨x1, h1, h⟩ := zbd h
  refine V_cV 5 rfl 2 [zI v1] [] dX10_origins_2 cv_X10_258 (ctX10_isType (Nat.le_refl 2) h1) (Nat.le_trans (by decide) hd) rfl rfl (Nat.le_of_ble_eq_true rfl) zoki rfl ?_
  refine V_if_eq 8 18 rfl dX10_origins_5 (by decide) (fun c => ?_) (fun c => ?_)
  · have h := zpos c h
    refine V_iconst 19 rfl (v := (-1)) dX10_origins_18 (by decide) ?_
    exact V_iret dX10_origins_19 rfl (hQ (((-1), mm)) (zinj h))
  · have h := zneg c h
    refine V_iload_n 9 rfl 2 dX10_origins_8 rfl rfl ?_
    refine V_iconst 10 rfl (v := 0) dX10_origins_9 (by decide) ?_
    refine V_bipush 12 rfl (v := 25) dX10_origins_10 (by decide) ?_
    obtain ⟨x2, h1, h⟩ := zbd h
    refine V_cS 15 rfl 0 [zI v2, zI 0, zI 25] [] dX10_origins_12 cs_X10_88 (ctX10_in (Nat.le_refl 0) h1) (Nat.le_trans (by decide) hd) rfl rfl (Nat.le_of_ble_eq_true rfl) zoki rfl ?_
    refine V_if_ne 18 20 rfl dX10_origins_15 (by decide) (fun c => ?_) (fun c => ?_)
    · have h := zneg c h
      refine V_aload_n 21 rfl 0 dX10_origins_20 rfl rfl ?_
      obtain ⟨x3, h1, h⟩ := zbd h
      refine V_cV 24 rfl 4 [] [] dX10_origins_21 cv_X10_279 (ctX10_lays_ (Nat.le_refl 4) h1) (Nat.le_trans (by decide) hd) rfl rfl (Nat.le_of_ble_eq_true rfl) zokn rfl ?_
      refine V_aload_n 25 rfl 0 dX10_origins_24 rfl rfl ?_
      refine V_iload_n 26 rfl 1 dX10_origins_25 rfl rfl ?_
      refine V_iload_n 27 rfl 2 dX10_origins_26 rfl rfl ?_
      obtain ⟨x4, h1, h⟩ := zbd h
      refine V_cV 30 rfl 44 [zI v1, zI v2] [] dX10_origins_27 cv_X10_339 (ctX10_sends (Nat.le_refl 44) h1) (Nat.le_trans (by decide) hd) rfl rfl (Nat.le_of_ble_eq_true rfl) zoki rfl ?_
      refine V_istore_n 31 rfl 3 (L' := [some (zK 10 0), some (zI v1), some (zI v2), some (zI x4.1)]) dX10_origins_30 rfl (by decide) rfl ?_
      refine V_aload_n 32 rfl 0 dX10_origins_31 rfl rfl ?_
      refine V_geti 35 rfl dX10_origins_32 fl_X10_333 rfl ?_
      exact V_iret dX10_origins_35 rfl (hQ (((gi x4.2 10 0 28), x4.2)) (zinj h))
    · have h := zpos c h
      refine V_iconst 19 rfl (v := (-1)) dX10_origins_18 (by decide) ?_
      exact V_iret dX10_origins_19 rfl (hQ (((-1), mm)) (zinj h))
theorem ctX10_origins {E : zE} {d : Nat} (hd : 45 ≤ d) {v1 : Int32} {v2 : Int32} {mm : zM} {o : (Int32 × zM)} (h : fX10_origins v1 v2 mm = some o) : zOC E yX10_origins cX10_origins 4 (some .int) d [zK 10 0, zI v1, zI v2] mm (some (zI o.1)) o.2 :=
  zCT_of (by decide) (Nat.le_of_ble_eq_true rfl) (zk_k (zk_i (zk_i zk_0))) rfl (wX10_origins hd h (fun r e => ⟨by rw [e], by rw [e]⟩))
def fX10_mean_J73 (v1 : Int32) (v2 : Int32) (v4 : Int32) (s0 : Int32) (s1 : Int32) (mm : zM) : Option ((Int32 × Int32 × Int32 × zM) ⊕ ((Int32 × Int32 × zM) ⊕ Empty)) :=
  (fX10_truth s0 mm).bind (fun x4 => some (.inl (v2, (s1 + x4), (v4 + 1), mm)))
def fX10_mean_J58 (v1 : Int32) (v3 : Int32) (v4 : Int32) (s0 : Int32) (s1 : Int32) (mm : zM) : Option ((Int32 × Int32 × Int32 × zM) ⊕ ((Int32 × Int32 × zM) ⊕ Empty)) :=
  if (gi mm 10 0 23) = 0 then (fX10_mean_J73 v1 ((s1 + s0)) v4 1 v3 mm) else (fX10_mean_J73 v1 ((s1 + s0)) v4 0 v3 mm)
def fX10_mean_L26 (v1 : Int32) (s : (Int32 × Int32 × Int32 × zM)) : Option ((Int32 × Int32 × Int32 × zM) ⊕ ((Int32 × Int32 × zM) ⊕ Empty)) :=
  if 26 ≤ s.2.2.1 then (some (.inr (.inl (s.1, s.2.1, s.2.2.2)))) else ((fX10_sends v1 s.2.2.1 s.2.2.2).bind (fun x3 => if (gi x3.2 10 0 23) = 0 then (fX10_mean_J58 v1 s.2.1 s.2.2.1 ((gi x3.2 10 0 24)) s.1 x3.2) else (fX10_mean_J58 v1 s.2.1 s.2.2.1 0 s.1 x3.2)))
def fX10_mean_J99 (s0 : UInt64) (mm : zM) : Option (Int64 × zM) :=
  some (((zd2l s0), mm))
def fX10_mean (v1 : Int32) (mm : zM) : Option (Int64 × zM) :=
  (fX10_isType v1 mm).bind (fun x1 => if x1 = 0 then (some (((zd2l 9221120237041090560), mm))) else ((fX10_lays_ mm).bind (fun x2 => (zloop (fX10_mean_L26 v1) zF (0, 0, 0, x2)).bind (fun o7 => zcase o7 (fun y5 => if y5.2.1 = 0 then (fX10_mean_J99 9221120237041090560 y5.2.2) else (zob (zn64 (FP.ddiv ((FP.i2d y5.1)) ((FP.i2d y5.2.1)))) (fX10_mean_J99 ((FP.ddiv ((FP.i2d y5.1)) ((FP.i2d y5.2.1)))) y5.2.2))) (fun r6 => r6.elim)))))
theorem wX10_mean_J73 {E : zE} {d : Nat} (hd : 45 ≤ d) {Q : Option zV → zM → Prop} {v1 : Int32} {v2 : Int32} {v4 : Int32} {s0 : Int32} {s1 : Int32} {mm : zM} {o : ((Int32 × Int32 × Int32 × zM) ⊕ ((Int32 × Int32 × zM) ⊕ Empty))} (h : fX10_mean_J73 v1 v2 v4 s0 s1 mm = some o) (kc : ∀ s' : (Int32 × Int32 × Int32 × zM), o = .inl s' → V E RX10 cX10_mean 6 (some .long) d Q 26 [some (zK 10 0), some (zI v1), some (zI s'.1), some (zI s'.2.1), some (zI s'.2.2.1), none] [] s'.2.2.2) (ke : ∀ y : (Int32 × Int32 × zM), o = .inr (.inl y) → V E RX10 cX10_mean 6 (some .long) d Q 84 [none, none, some (zI y.1), some (zI y.2.1), none, none] [] y.2.2) : V E RX10 cX10_mean 6 (some .long) d Q 73 [some (zK 10 0), some (zI v1), some (zI v2), none, some (zI v4), none] [zI s0, zI s1] mm := by
  unfold fX10_mean_J73 at h
  obtain ⟨x4, h1, h⟩ := zbd h
  refine V_cS 76 rfl 0 [zI s0] [zI s1] dX10_mean_73 cs_X10_104 (ctX10_truth (Nat.le_refl 0) h1) (Nat.le_trans (by decide) hd) rfl rfl (Nat.le_of_ble_eq_true rfl) zoki rfl ?_
  refine V_iadd 77 rfl dX10_mean_76 ?_
  refine V_istore_n 78 rfl 3 (L' := [some (zK 10 0), some (zI v1), some (zI v2), some (zI (s1 + x4)), some (zI v4), none]) dX10_mean_77 rfl (by decide) rfl ?_
  refine V_iinc 81 rfl (v4 + 1) (L' := [some (zK 10 0), some (zI v1), some (zI v2), some (zI (s1 + x4)), some (zI (v4 + 1)), none]) dX10_mean_78 rfl rfl (by decide) rfl ?_
  refine V_goto 26 dX10_mean_81 (by decide) ?_
  exact kc (v2, (s1 + x4), (v4 + 1), mm) (zinj h)
theorem wX10_mean_J58 {E : zE} {d : Nat} (hd : 45 ≤ d) {Q : Option zV → zM → Prop} {v1 : Int32} {v3 : Int32} {v4 : Int32} {s0 : Int32} {s1 : Int32} {mm : zM} {o : ((Int32 × Int32 × Int32 × zM) ⊕ ((Int32 × Int32 × zM) ⊕ Empty))} (h : fX10_mean_J58 v1 v3 v4 s0 s1 mm = some o) (kc : ∀ s' : (Int32 × Int32 × Int32 × zM), o = .inl s' → V E RX10 cX10_mean 6 (some .long) d Q 26 [some (zK 10 0), some (zI v1), some (zI s'.1), some (zI s'.2.1), some (zI s'.2.2.1), none] [] s'.2.2.2) (ke : ∀ y : (Int32 × Int32 × zM), o = .inr (.inl y) → V E RX10 cX10_mean 6 (some .long) d Q 84 [none, none, some (zI y.1), some (zI y.2.1), none, none] [] y.2.2) : V E RX10 cX10_mean 6 (some .long) d Q 58 [some (zK 10 0), some (zI v1), none, some (zI v3), some (zI v4), none] [zI s0, zI s1] mm := by
  unfold fX10_mean_J58 at h
  refine V_iadd 59 rfl dX10_mean_58 ?_
  refine V_istore_n 60 rfl 2 (L' := [some (zK 10 0), some (zI v1), some (zI (s1 + s0)), some (zI v3), some (zI v4), none]) dX10_mean_59 rfl (by decide) rfl ?_
  refine V_iload_n 61 rfl 3 dX10_mean_60 rfl rfl ?_
  refine V_aload_n 62 rfl 0 dX10_mean_61 rfl rfl ?_
  refine V_geti 65 rfl dX10_mean_62 fl_X10_306 rfl ?_
  refine V_if_ne 68 72 rfl dX10_mean_65 (by decide) (fun c => ?_) (fun c => ?_)
  · have h := zneg c h
    refine V_iconst 73 rfl (v := 0) dX10_mean_72 (by decide) ?_
    exact V_w (zsub_s (zsub_s (zsub_s (zsub_n (zsub_s (zsub_s zsub_0)))))) (wX10_mean_J73 hd h kc ke)
  · have h := zpos c h
    refine V_iconst 69 rfl (v := 1) dX10_mean_68 (by decide) ?_
    refine V_goto 73 dX10_mean_69 (by decide) ?_
    exact V_w (zsub_s (zsub_s (zsub_s (zsub_n (zsub_s (zsub_s zsub_0)))))) (wX10_mean_J73 hd h kc ke)
theorem wX10_mean_L26 {E : zE} {d : Nat} (hd : 45 ≤ d) {Q : Option zV → zM → Prop} {v1 : Int32} {n : Nat} {s : (Int32 × Int32 × Int32 × zM)} {o : (Int32 × Int32 × zM) ⊕ Empty} (h : zloop (fX10_mean_L26 v1) n s = some o) (he : ∀ y : (Int32 × Int32 × zM), o = .inl y → V E RX10 cX10_mean 6 (some .long) d Q 84 [none, none, some (zI y.1), some (zI y.2.1), none, none] [] y.2.2) : V E RX10 cX10_mean 6 (some .long) d Q 26 [some (zK 10 0), some (zI v1), some (zI s.1), some (zI s.2.1), some (zI s.2.2.1), none] [] s.2.2.2 := by
  induction n generalizing s with
  | zero => exact (zloop_0 h).elim
  | succ n ih =>
    obtain ⟨o1, h1, hc1, he1⟩ := zloop_s h
    have kc : ∀ s' : (Int32 × Int32 × Int32 × zM), o1 = .inl s' → V E RX10 cX10_mean 6 (some .long) d Q 26 [some (zK 10 0), some (zI v1), some (zI s'.1), some (zI s'.2.1), some (zI s'.2.2.1), none] [] s'.2.2.2 := fun s' e => ih (hc1 s' e)
    have ke : ∀ y : (Int32 × Int32 × zM), o1 = .inr (.inl y) → V E RX10 cX10_mean 6 (some .long) d Q 84 [none, none, some (zI y.1), some (zI y.2.1), none, none] [] y.2.2 := fun y e => he y (he1 _ e)
    clear h hc1 he1 ih
    have h := h1
    clear h1
    unfold fX10_mean_L26 at h
    refine V_iload 28 rfl dX10_mean_26 rfl ?_
    refine V_bipush 30 rfl (v := 26) dX10_mean_28 (by decide) ?_
    refine V_icmp_ge 33 84 rfl dX10_mean_30 (by decide) (fun c => ?_) (fun c => ?_)
    · have h := zpos c h
      exact V_w (zsub_n (zsub_n (zsub_s (zsub_s (zsub_n (zsub_s zsub_0)))))) (ke (s.1, s.2.1, s.2.2.2) (zinj h))
    · have h := zneg c h
      refine V_aload_n 34 rfl 0 dX10_mean_33 rfl rfl ?_
      refine V_iload_n 35 rfl 1 dX10_mean_34 rfl rfl ?_
      refine V_iload 37 rfl dX10_mean_35 rfl ?_
      obtain ⟨x3, h1, h⟩ := zbd h
      refine V_cV 40 rfl 44 [zI v1, zI s.2.2.1] [] dX10_mean_37 cv_X10_339 (ctX10_sends (Nat.le_refl 44) h1) (Nat.le_trans (by decide) hd) rfl rfl (Nat.le_of_ble_eq_true rfl) zoki rfl ?_
      refine V_istore 42 rfl (L' := [some (zK 10 0), some (zI v1), some (zI s.1), some (zI s.2.1), some (zI s.2.2.1), some (zI x3.1)]) dX10_mean_40 (by decide) rfl ?_
      refine V_iload_n 43 rfl 2 dX10_mean_42 rfl rfl ?_
      refine V_aload_n 44 rfl 0 dX10_mean_43 rfl rfl ?_
      refine V_geti 47 rfl dX10_mean_44 fl_X10_306 rfl ?_
      refine V_if_ne 50 57 rfl dX10_mean_47 (by decide) (fun c => ?_) (fun c => ?_)
      · have h := zneg c h
        refine V_iconst 58 rfl (v := 0) dX10_mean_57 (by decide) ?_
        exact V_w (zsub_s (zsub_s (zsub_n (zsub_s (zsub_s (zsub_n zsub_0)))))) (wX10_mean_J58 hd h kc ke)
      · have h := zpos c h
        refine V_aload_n 51 rfl 0 dX10_mean_50 rfl rfl ?_
        refine V_geti 54 rfl dX10_mean_51 fl_X10_312 rfl ?_
        refine V_goto 58 dX10_mean_54 (by decide) ?_
        exact V_w (zsub_s (zsub_s (zsub_n (zsub_s (zsub_s (zsub_n zsub_0)))))) (wX10_mean_J58 hd h kc ke)
theorem wX10_mean_J99 {E : zE} {d : Nat} (hd : 45 ≤ d) {Q : Option zV → zM → Prop} {s0 : UInt64} {mm : zM} {o : (Int64 × zM)} (h : fX10_mean_J99 s0 mm = some o) (hQ : ∀ r, o = r → Q (some (zJ r.1)) r.2) : V E RX10 cX10_mean 6 (some .long) d Q 99 [none, none, none, none, none, none] [zD s0] mm := by
  unfold fX10_mean_J99 at h
  refine V_d2l 102 rfl dX10_mean_99 tb_1588 (Nat.le_trans (by decide) hd) (Nat.le_of_ble_eq_true rfl) ?_
  exact V_lret dX10_mean_102 rfl (hQ (((zd2l s0), mm)) (zinj h))
theorem wX10_mean {E : zE} {d : Nat} (hd : 45 ≤ d) {Q : Option zV → zM → Prop} {v1 : Int32} {mm : zM} {o : (Int64 × zM)} (h : fX10_mean v1 mm = some o) (hQ : ∀ r, o = r → Q (some (zJ r.1)) r.2) : V E RX10 cX10_mean 6 (some .long) d Q 0 [some (zK 10 0), some (zI v1), none, none, none, none] [] mm := by
  unfold fX10_mean at h
  refine V_aload_n 1 rfl 0 dX10_mean_0 rfl rfl ?_
  refine V_iload_n 2 rfl 1 dX10_mean_1 rfl rfl ?_
  obtain ⟨x1, h1, h⟩ := zbd h
  refine V_cV 5 rfl 2 [zI v1] [] dX10_mean_2 cv_X10_258 (ctX10_isType (Nat.le_refl 2) h1) (Nat.le_trans (by decide) hd) rfl rfl (Nat.le_of_ble_eq_true rfl) zoki rfl ?_
  refine V_if_ne 8 15 rfl dX10_mean_5 (by decide) (fun c => ?_) (fun c => ?_)
  · have h := zneg c h
    refine V_aload_n 16 rfl 0 dX10_mean_15 rfl rfl ?_
    obtain ⟨x2, h1, h⟩ := zbd h
    refine V_cV 19 rfl 4 [] [] dX10_mean_16 cv_X10_279 (ctX10_lays_ (Nat.le_refl 4) h1) (Nat.le_trans (by decide) hd) rfl rfl (Nat.le_of_ble_eq_true rfl) zokn rfl ?_
    refine V_iconst 20 rfl (v := 0) dX10_mean_19 (by decide) ?_
    refine V_istore_n 21 rfl 2 (L' := [some (zK 10 0), some (zI v1), some (zI 0), none, none, none]) dX10_mean_20 rfl (by decide) rfl ?_
    refine V_iconst 22 rfl (v := 0) dX10_mean_21 (by decide) ?_
    refine V_istore_n 23 rfl 3 (L' := [some (zK 10 0), some (zI v1), some (zI 0), some (zI 0), none, none]) dX10_mean_22 rfl (by decide) rfl ?_
    refine V_iconst 24 rfl (v := 0) dX10_mean_23 (by decide) ?_
    refine V_istore 26 rfl (L' := [some (zK 10 0), some (zI v1), some (zI 0), some (zI 0), some (zI 0), none]) dX10_mean_24 (by decide) rfl ?_
    obtain ⟨o7, h1, h⟩ := zbd h
    refine wX10_mean_L26 hd h1 (fun y5 e => ?_)
    have h := zcl_ e h
    refine V_iload_n 85 rfl 3 dX10_mean_84 rfl rfl ?_
    refine V_if_ne 88 94 rfl dX10_mean_85 (by decide) (fun c => ?_) (fun c => ?_)
    · have h := zneg c h
      refine V_iload_n 95 rfl 2 dX10_mean_94 rfl rfl ?_
      refine V_i2d 96 rfl dX10_mean_95 ?_
      refine V_iload_n 97 rfl 3 dX10_mean_96 rfl rfl ?_
      refine V_i2d 98 rfl dX10_mean_97 ?_
      obtain ⟨hi, h⟩ := zobd h
      refine V_ddiv 99 rfl dX10_mean_98 (zn64_of hi) ?_
      exact V_w (zsub_s (zsub_s (zsub_n (zsub_n (zsub_s (zsub_s zsub_0)))))) (wX10_mean_J99 hd h hQ)
    · have h := zpos c h
      refine V_ldc2d 91 rfl (v := 9221120237041090560) dX10_mean_88 tb_1587 ?_
      refine V_goto 99 dX10_mean_91 (by decide) ?_
      exact V_w (zsub_s (zsub_s (zsub_n (zsub_n (zsub_s (zsub_s zsub_0)))))) (wX10_mean_J99 hd h hQ)
  · have h := zpos c h
    refine V_ldc2d 11 rfl (v := 9221120237041090560) dX10_mean_8 tb_1587 ?_
    refine V_d2l 14 rfl dX10_mean_11 tb_1588 (Nat.le_trans (by decide) hd) (Nat.le_of_ble_eq_true rfl) ?_
    exact V_lret dX10_mean_14 rfl (hQ (((zd2l 9221120237041090560), mm)) (zinj h))
theorem ctX10_mean {E : zE} {d : Nat} (hd : 45 ≤ d) {v1 : Int32} {mm : zM} {o : (Int64 × zM)} (h : fX10_mean v1 mm = some o) : zOC E yX10_mean cX10_mean 6 (some .long) d [zK 10 0, zI v1] mm (some (zJ o.1)) o.2 :=
  zCT_of (by decide) (Nat.le_of_ble_eq_true rfl) (zk_k (zk_i zk_0)) rfl (wX10_mean hd h (fun r e => ⟨by rw [e], by rw [e]⟩))
def fX10_find_L2 (v1 : Int32) (mm : zM) (s : Int32) : Option (Int32 ⊕ (Unit ⊕ Int32)) :=
  if (gi mm 38 0 (zn 1356)) ≤ s then (some (.inr (.inl ()))) else (zob (zin ((((113 * s)) + 1)) 1357) (if (gi mm 38 0 (zn ((((113 * s)) + 1)))) = v1 then (some (.inr (.inr s))) else (some (.inl (s + 1)))))
def fX10_find (v1 : Int32) (mm : zM) : Option Int32 :=
  (zloop (fX10_find_L2 v1 mm) zF 0).bind (fun o3 => zcase o3 (fun y1 => some ((-1))) (fun r2 => some r2))
theorem wX10_find_L2 {E : zE} {d : Nat} (hd : 0 ≤ d) {Q : Option zV → zM → Prop} {v1 : Int32} {mm : zM} {n : Nat} {s : Int32} {o : Unit ⊕ Int32} (h : zloop (fX10_find_L2 v1 mm) n s = some o) (he : ∀ y : Unit, o = .inl y → V E RX10 cX10_find 3 (some .int) d Q 37 [none, none, none] [] mm) (hr : ∀ r : Int32, o = .inr r → Q (some (zI r)) mm) : V E RX10 cX10_find 3 (some .int) d Q 2 [some (zK 10 0), some (zI v1), some (zI s)] [] mm := by
  induction n generalizing s with
  | zero => exact (zloop_0 h).elim
  | succ n ih =>
    obtain ⟨o1, h1, hc1, he1⟩ := zloop_s h
    have kc : ∀ s' : Int32, o1 = .inl s' → V E RX10 cX10_find 3 (some .int) d Q 2 [some (zK 10 0), some (zI v1), some (zI s')] [] mm := fun s' e => ih (hc1 s' e)
    have ke : ∀ y : Unit, o1 = .inr (.inl y) → V E RX10 cX10_find 3 (some .int) d Q 37 [none, none, none] [] mm := fun y e => he y (he1 _ e)
    have kr : ∀ r : Int32, o1 = .inr (.inr r) → Q (some (zI r)) mm := fun r e => hr r (he1 _ e)
    clear h hc1 he1 ih
    have h := h1
    clear h1
    unfold fX10_find_L2 at h
    refine V_iload_n 3 rfl 2 dX10_find_2 rfl rfl ?_
    refine V_aload_n 4 rfl 0 dX10_find_3 rfl rfl ?_
    refine V_getr 7 rfl 38 0 dX10_find_4 fl_X10_11 rfl rfl rfl ?_
    refine V_sipush 10 rfl (v := 1356) dX10_find_7 (by decide) ?_
    refine V_iald 11 rfl dX10_find_10 rfl (by decide) ?_
    refine V_icmp_ge 14 37 rfl dX10_find_11 (by decide) (fun c => ?_) (fun c => ?_)
    · have h := zpos c h
      exact V_w (zsub_n (zsub_n (zsub_n zsub_0))) (ke () (zinj h))
    · have h := zneg c h
      refine V_aload_n 15 rfl 0 dX10_find_14 rfl rfl ?_
      refine V_getr 18 rfl 38 0 dX10_find_15 fl_X10_11 rfl rfl rfl ?_
      refine V_bipush 20 rfl (v := 113) dX10_find_18 (by decide) ?_
      refine V_iload_n 21 rfl 2 dX10_find_20 rfl rfl ?_
      refine V_imul 22 rfl dX10_find_21 ?_
      refine V_iconst 23 rfl (v := 1) dX10_find_22 (by decide) ?_
      refine V_iadd 24 rfl dX10_find_23 ?_
      obtain ⟨hi, h⟩ := zobd h
      refine V_iald 25 rfl dX10_find_24 rfl hi ?_
      refine V_iload_n 26 rfl 1 dX10_find_25 rfl rfl ?_
      refine V_icmp_ne 29 31 rfl dX10_find_26 (by decide) (fun c => ?_) (fun c => ?_)
      · have h := zneg c h
        refine V_iinc 34 rfl (s + 1) (L' := [some (zK 10 0), some (zI v1), some (zI (s + 1))]) dX10_find_31 rfl rfl (by decide) rfl ?_
        refine V_goto 2 dX10_find_34 (by decide) ?_
        exact kc (s + 1) (zinj h)
      · have h := zpos c h
        refine V_iload_n 30 rfl 2 dX10_find_29 rfl rfl ?_
        exact V_iret dX10_find_30 rfl (kr s (zinj h))
theorem wX10_find {E : zE} {d : Nat} (hd : 0 ≤ d) {Q : Option zV → zM → Prop} {v1 : Int32} {mm : zM} {o : Int32} (h : fX10_find v1 mm = some o) (hQ : ∀ r, o = r → Q (some (zI r)) mm) : V E RX10 cX10_find 3 (some .int) d Q 0 [some (zK 10 0), some (zI v1), none] [] mm := by
  unfold fX10_find at h
  refine V_iconst 1 rfl (v := 0) dX10_find_0 (by decide) ?_
  refine V_istore_n 2 rfl 2 (L' := [some (zK 10 0), some (zI v1), some (zI 0)]) dX10_find_1 rfl (by decide) rfl ?_
  obtain ⟨o3, h1, h⟩ := zbd h
  refine wX10_find_L2 hd h1 (fun y1 e => ?_) (fun r e => by have h := zcr_ e h; exact hQ r (zinj h))
  have h := zcl_ e h
  refine V_iconst 38 rfl (v := (-1)) dX10_find_37 (by decide) ?_
  exact V_iret dX10_find_38 rfl (hQ ((-1)) (zinj h))
theorem ctX10_find {E : zE} {d : Nat} (hd : 0 ≤ d) {v1 : Int32} {mm : zM} {o : Int32} (h : fX10_find v1 mm = some o) : zOC E yX10_find cX10_find 3 (some .int) d [zK 10 0, zI v1] mm (some (zI o)) mm :=
  zCT_of (by decide) (Nat.le_of_ble_eq_true rfl) (zk_k (zk_i zk_0)) rfl (wX10_find hd h (fun r e => ⟨by rw [e], rfl⟩))
def fX10_lowest_L39 (v2 : Int32) (v3 : Int32) (mm : zM) (s : (Int32 × Int32)) : Option ((Int32 × Int32) ⊕ (Int32 ⊕ Empty)) :=
  (fX10_parents v3 mm).bind (fun x2 => if x2 ≤ s.2 then (some (.inr (.inl s.1))) else ((fX10_parentOf v3 s.2 mm).bind (fun x3 => some (.inl ((s.1 ||| ((1 <<< (x3 &&& 31)))), (s.2 + 1))))))
def fX10_lowest_J34 (v1 : Int32) (v3 : Int32) (s0 : Int32) (s1 : Int32) (mm : zM) : Option ((Int32 × Int32 × Int32) ⊕ ((Int32 × Int32) ⊕ Empty)) :=
  (zloop (fX10_lowest_L39 ((s1 ||| s0)) v3 mm) zF (v1, 0)).bind (fun o6 => zcase o6 (fun y4 => some (.inl (y4, (s1 ||| s0), (v3 + 1)))) (fun r5 => r5.elim))
def fX10_lowest_L6 (mm : zM) (s : (Int32 × Int32 × Int32)) : Option ((Int32 × Int32 × Int32) ⊕ ((Int32 × Int32) ⊕ Empty)) :=
  if (gi mm 38 0 (zn 1356)) ≤ s.2.2 then (some (.inr (.inl (s.1, s.2.1)))) else ((fX10_isTrait s.2.2 mm).bind (fun x1 => if x1 = 0 then (fX10_lowest_J34 s.1 s.2.2 ((1 <<< (s.2.2 &&& 31))) s.2.1 mm) else (fX10_lowest_J34 s.1 s.2.2 0 s.2.1 mm)))
def fX10_lowest (mm : zM) : Option Int32 :=
  (zloop (fX10_lowest_L6 mm) zF (0, 0, 0)).bind (fun o9 => zcase o9 (fun y7 => some ((y7.2 &&& ((y7.1 ^^^ ((-1))))))) (fun r8 => r8.elim))
theorem wX10_lowest_L39 {E : zE} {d : Nat} (hd : 1 ≤ d) {Q : Option zV → zM → Prop} {v2 : Int32} {v3 : Int32} {mm : zM} {n : Nat} {s : (Int32 × Int32)} {o : Int32 ⊕ Empty} (h : zloop (fX10_lowest_L39 v2 v3 mm) n s = some o) (he : ∀ y : Int32, o = .inl y → V E RX10 cX10_lowest 5 (some .int) d Q 67 [some (zK 10 0), some (zI y), some (zI v2), some (zI v3), none] [] mm) : V E RX10 cX10_lowest 5 (some .int) d Q 39 [some (zK 10 0), some (zI s.1), some (zI v2), some (zI v3), some (zI s.2)] [] mm := by
  induction n generalizing s with
  | zero => exact (zloop_0 h).elim
  | succ n ih =>
    obtain ⟨o1, h1, hc1, he1⟩ := zloop_s h
    have kc : ∀ s' : (Int32 × Int32), o1 = .inl s' → V E RX10 cX10_lowest 5 (some .int) d Q 39 [some (zK 10 0), some (zI s'.1), some (zI v2), some (zI v3), some (zI s'.2)] [] mm := fun s' e => ih (hc1 s' e)
    have ke : ∀ y : Int32, o1 = .inr (.inl y) → V E RX10 cX10_lowest 5 (some .int) d Q 67 [some (zK 10 0), some (zI y), some (zI v2), some (zI v3), none] [] mm := fun y e => he y (he1 _ e)
    clear h hc1 he1 ih
    have h := h1
    clear h1
    unfold fX10_lowest_L39 at h
    refine V_iload 41 rfl dX10_lowest_39 rfl ?_
    refine V_aload_n 42 rfl 0 dX10_lowest_41 rfl rfl ?_
    refine V_iload_n 43 rfl 3 dX10_lowest_42 rfl rfl ?_
    obtain ⟨x2, h1, h⟩ := zbd h
    refine V_cV 46 rfl 0 [zI v3] [zI s.2] dX10_lowest_43 cv_X10_237 (ctX10_parents (Nat.le_refl 0) h1) (Nat.le_trans (by decide) hd) rfl rfl (Nat.le_of_ble_eq_true rfl) zoki rfl ?_
    refine V_icmp_ge 49 67 rfl dX10_lowest_46 (by decide) (fun c => ?_) (fun c => ?_)
    · have h := zpos c h
      exact V_w (zsub_s (zsub_s (zsub_s (zsub_s (zsub_n zsub_0))))) (ke s.1 (zinj h))
    · have h := zneg c h
      refine V_iload_n 50 rfl 1 dX10_lowest_49 rfl rfl ?_
      refine V_iconst 51 rfl (v := 1) dX10_lowest_50 (by decide) ?_
      refine V_aload_n 52 rfl 0 dX10_lowest_51 rfl rfl ?_
      refine V_iload_n 53 rfl 3 dX10_lowest_52 rfl rfl ?_
      refine V_iload 55 rfl dX10_lowest_53 rfl ?_
      obtain ⟨x3, h1, h⟩ := zbd h
      refine V_cV 58 rfl 0 [zI v3, zI s.2] [zI 1, zI s.1] dX10_lowest_55 cv_X10_240 (ctX10_parentOf (Nat.le_refl 0) h1) (Nat.le_trans (by decide) hd) rfl rfl (Nat.le_of_ble_eq_true rfl) zoki rfl ?_
      refine V_ishl 59 rfl dX10_lowest_58 ?_
      refine V_ior 60 rfl dX10_lowest_59 ?_
      refine V_istore_n 61 rfl 1 (L' := [some (zK 10 0), some (zI (s.1 ||| ((1 <<< (x3 &&& 31))))), some (zI v2), some (zI v3), some (zI s.2)]) dX10_lowest_60 rfl (by decide) rfl ?_
      refine V_iinc 64 rfl (s.2 + 1) (L' := [some (zK 10 0), some (zI (s.1 ||| ((1 <<< (x3 &&& 31))))), some (zI v2), some (zI v3), some (zI (s.2 + 1))]) dX10_lowest_61 rfl rfl (by decide) rfl ?_
      refine V_goto 39 dX10_lowest_64 (by decide) ?_
      exact kc ((s.1 ||| ((1 <<< (x3 &&& 31)))), (s.2 + 1)) (zinj h)
theorem wX10_lowest_J34 {E : zE} {d : Nat} (hd : 1 ≤ d) {Q : Option zV → zM → Prop} {v1 : Int32} {v3 : Int32} {s0 : Int32} {s1 : Int32} {mm : zM} {o : ((Int32 × Int32 × Int32) ⊕ ((Int32 × Int32) ⊕ Empty))} (h : fX10_lowest_J34 v1 v3 s0 s1 mm = some o) (kc : ∀ s' : (Int32 × Int32 × Int32), o = .inl s' → V E RX10 cX10_lowest 5 (some .int) d Q 6 [some (zK 10 0), some (zI s'.1), some (zI s'.2.1), some (zI s'.2.2), none] [] mm) (ke : ∀ y : (Int32 × Int32), o = .inr (.inl y) → V E RX10 cX10_lowest 5 (some .int) d Q 73 [none, some (zI y.1), some (zI y.2), none, none] [] mm) : V E RX10 cX10_lowest 5 (some .int) d Q 34 [some (zK 10 0), some (zI v1), none, some (zI v3), none] [zI s0, zI s1] mm := by
  unfold fX10_lowest_J34 at h
  refine V_ior 35 rfl dX10_lowest_34 ?_
  refine V_istore_n 36 rfl 2 (L' := [some (zK 10 0), some (zI v1), some (zI (s1 ||| s0)), some (zI v3), none]) dX10_lowest_35 rfl (by decide) rfl ?_
  refine V_iconst 37 rfl (v := 0) dX10_lowest_36 (by decide) ?_
  refine V_istore 39 rfl (L' := [some (zK 10 0), some (zI v1), some (zI (s1 ||| s0)), some (zI v3), some (zI 0)]) dX10_lowest_37 (by decide) rfl ?_
  obtain ⟨o6, h1, h⟩ := zbd h
  refine wX10_lowest_L39 hd h1 (fun y4 e => ?_)
  have h := zcl_ e h
  refine V_iinc 70 rfl (v3 + 1) (L' := [some (zK 10 0), some (zI y4), some (zI (s1 ||| s0)), some (zI (v3 + 1)), none]) dX10_lowest_67 rfl rfl (by decide) rfl ?_
  refine V_goto 6 dX10_lowest_70 (by decide) ?_
  exact kc (y4, (s1 ||| s0), (v3 + 1)) (zinj h)
theorem wX10_lowest_L6 {E : zE} {d : Nat} (hd : 1 ≤ d) {Q : Option zV → zM → Prop} {mm : zM} {n : Nat} {s : (Int32 × Int32 × Int32)} {o : (Int32 × Int32) ⊕ Empty} (h : zloop (fX10_lowest_L6 mm) n s = some o) (he : ∀ y : (Int32 × Int32), o = .inl y → V E RX10 cX10_lowest 5 (some .int) d Q 73 [none, some (zI y.1), some (zI y.2), none, none] [] mm) : V E RX10 cX10_lowest 5 (some .int) d Q 6 [some (zK 10 0), some (zI s.1), some (zI s.2.1), some (zI s.2.2), none] [] mm := by
  induction n generalizing s with
  | zero => exact (zloop_0 h).elim
  | succ n ih =>
    obtain ⟨o1, h1, hc1, he1⟩ := zloop_s h
    have kc : ∀ s' : (Int32 × Int32 × Int32), o1 = .inl s' → V E RX10 cX10_lowest 5 (some .int) d Q 6 [some (zK 10 0), some (zI s'.1), some (zI s'.2.1), some (zI s'.2.2), none] [] mm := fun s' e => ih (hc1 s' e)
    have ke : ∀ y : (Int32 × Int32), o1 = .inr (.inl y) → V E RX10 cX10_lowest 5 (some .int) d Q 73 [none, some (zI y.1), some (zI y.2), none, none] [] mm := fun y e => he y (he1 _ e)
    clear h hc1 he1 ih
    have h := h1
    clear h1
    unfold fX10_lowest_L6 at h
    refine V_iload_n 7 rfl 3 dX10_lowest_6 rfl rfl ?_
    refine V_aload_n 8 rfl 0 dX10_lowest_7 rfl rfl ?_
    refine V_getr 11 rfl 38 0 dX10_lowest_8 fl_X10_11 rfl rfl rfl ?_
    refine V_sipush 14 rfl (v := 1356) dX10_lowest_11 (by decide) ?_
    refine V_iald 15 rfl dX10_lowest_14 rfl (by decide) ?_
    refine V_icmp_ge 18 73 rfl dX10_lowest_15 (by decide) (fun c => ?_) (fun c => ?_)
    · have h := zpos c h
      exact V_w (zsub_n (zsub_s (zsub_s (zsub_n (zsub_s zsub_0))))) (ke (s.1, s.2.1) (zinj h))
    · have h := zneg c h
      refine V_iload_n 19 rfl 2 dX10_lowest_18 rfl rfl ?_
      refine V_aload_n 20 rfl 0 dX10_lowest_19 rfl rfl ?_
      refine V_iload_n 21 rfl 3 dX10_lowest_20 rfl rfl ?_
      obtain ⟨x1, h1, h⟩ := zbd h
      refine V_cV 24 rfl 0 [zI s.2.2] [zI s.2.1] dX10_lowest_21 cv_X10_204 (ctX10_isTrait (Nat.le_refl 0) h1) (Nat.le_trans (by decide) hd) rfl rfl (Nat.le_of_ble_eq_true rfl) zoki rfl ?_
      refine V_if_eq 27 31 rfl dX10_lowest_24 (by decide) (fun c => ?_) (fun c => ?_)
      · have h := zpos c h
        refine V_iconst 32 rfl (v := 1) dX10_lowest_31 (by decide) ?_
        refine V_iload_n 33 rfl 3 dX10_lowest_32 rfl rfl ?_
        refine V_ishl 34 rfl dX10_lowest_33 ?_
        exact V_w (zsub_s (zsub_s (zsub_n (zsub_s (zsub_s zsub_0))))) (wX10_lowest_J34 hd h kc ke)
      · have h := zneg c h
        refine V_iconst 28 rfl (v := 0) dX10_lowest_27 (by decide) ?_
        refine V_goto 34 dX10_lowest_28 (by decide) ?_
        exact V_w (zsub_s (zsub_s (zsub_n (zsub_s (zsub_s zsub_0))))) (wX10_lowest_J34 hd h kc ke)
theorem wX10_lowest {E : zE} {d : Nat} (hd : 1 ≤ d) {Q : Option zV → zM → Prop} {mm : zM} {o : Int32} (h : fX10_lowest mm = some o) (hQ : ∀ r, o = r → Q (some (zI r)) mm) : V E RX10 cX10_lowest 5 (some .int) d Q 0 [some (zK 10 0), none, none, none, none] [] mm := by
  unfold fX10_lowest at h
  refine V_iconst 1 rfl (v := 0) dX10_lowest_0 (by decide) ?_
  refine V_istore_n 2 rfl 1 (L' := [some (zK 10 0), some (zI 0), none, none, none]) dX10_lowest_1 rfl (by decide) rfl ?_
  refine V_iconst 3 rfl (v := 0) dX10_lowest_2 (by decide) ?_
  refine V_istore_n 4 rfl 2 (L' := [some (zK 10 0), some (zI 0), some (zI 0), none, none]) dX10_lowest_3 rfl (by decide) rfl ?_
  refine V_iconst 5 rfl (v := 0) dX10_lowest_4 (by decide) ?_
  refine V_istore_n 6 rfl 3 (L' := [some (zK 10 0), some (zI 0), some (zI 0), some (zI 0), none]) dX10_lowest_5 rfl (by decide) rfl ?_
  obtain ⟨o9, h1, h⟩ := zbd h
  refine wX10_lowest_L6 hd h1 (fun y7 e => ?_)
  have h := zcl_ e h
  refine V_iload_n 74 rfl 2 dX10_lowest_73 rfl rfl ?_
  refine V_iload_n 75 rfl 1 dX10_lowest_74 rfl rfl ?_
  refine V_iconst 76 rfl (v := (-1)) dX10_lowest_75 (by decide) ?_
  refine V_ixor 77 rfl dX10_lowest_76 ?_
  refine V_iand 78 rfl dX10_lowest_77 ?_
  exact V_iret dX10_lowest_78 rfl (hQ ((y7.2 &&& ((y7.1 ^^^ ((-1)))))) (zinj h))
theorem ctX10_lowest {E : zE} {d : Nat} (hd : 1 ≤ d) {mm : zM} {o : Int32} (h : fX10_lowest mm = some o) : zOC E yX10_lowest cX10_lowest 5 (some .int) d [zK 10 0] mm (some (zI o)) mm :=
  zCT_of (by decide) (Nat.le_of_ble_eq_true rfl) (zk_k zk_0) rfl (wX10_lowest hd h (fun r e => ⟨by rw [e], rfl⟩))
def fX10_most_L8 (v1 : Int32) (mm : zM) (s : (Int32 × Int32)) : Option ((Int32 × Int32) ⊕ (Int32 ⊕ Empty)) :=
  if (gi mm 38 0 (zn 1356)) ≤ s.2 then (some (.inr (.inl s.1))) else (if v1 = 0 then (zob (zin s.2 12) (some (.inl ((if s.1 < ((gi mm 46 0 (zn s.2))) then ((gi mm 46 0 (zn s.2))) else s.1), (s.2 + 1))))) else ((fX10_flatSet s.2 3 mm).bind (fun x2 => (fJ6_bitCount x2 mm).bind (fun x3 => some (.inl ((s.1 + x3), (s.2 + 1)))))))
def fX10_most (v1 : Int32) (mm : zM) : Option (Int32 × zM) :=
  (fX10_lays_ mm).bind (fun x1 => (zloop (fX10_most_L8 v1 x1) zF (0, 0)).bind (fun o6 => zcase o6 (fun y4 => some ((y4, x1))) (fun r5 => r5.elim)))
theorem wX10_most_L8 {E : zE} {d : Nat} (hd : 5 ≤ d) {Q : Option zV → zM → Prop} {v1 : Int32} {mm : zM} {n : Nat} {s : (Int32 × Int32)} {o : Int32 ⊕ Empty} (h : zloop (fX10_most_L8 v1 mm) n s = some o) (he : ∀ y : Int32, o = .inl y → V E RX10 cX10_most 4 (some .int) d Q 55 [none, none, some (zI y), none] [] mm) : V E RX10 cX10_most 4 (some .int) d Q 8 [some (zK 10 0), some (zI v1), some (zI s.1), some (zI s.2)] [] mm := by
  induction n generalizing s with
  | zero => exact (zloop_0 h).elim
  | succ n ih =>
    obtain ⟨o1, h1, hc1, he1⟩ := zloop_s h
    have kc : ∀ s' : (Int32 × Int32), o1 = .inl s' → V E RX10 cX10_most 4 (some .int) d Q 8 [some (zK 10 0), some (zI v1), some (zI s'.1), some (zI s'.2)] [] mm := fun s' e => ih (hc1 s' e)
    have ke : ∀ y : Int32, o1 = .inr (.inl y) → V E RX10 cX10_most 4 (some .int) d Q 55 [none, none, some (zI y), none] [] mm := fun y e => he y (he1 _ e)
    clear h hc1 he1 ih
    have h := h1
    clear h1
    unfold fX10_most_L8 at h
    refine V_iload_n 9 rfl 3 dX10_most_8 rfl rfl ?_
    refine V_aload_n 10 rfl 0 dX10_most_9 rfl rfl ?_
    refine V_getr 13 rfl 38 0 dX10_most_10 fl_X10_11 rfl rfl rfl ?_
    refine V_sipush 16 rfl (v := 1356) dX10_most_13 (by decide) ?_
    refine V_iald 17 rfl dX10_most_16 rfl (by decide) ?_
    refine V_icmp_ge 20 55 rfl dX10_most_17 (by decide) (fun c => ?_) (fun c => ?_)
    · have h := zpos c h
      exact V_w (zsub_n (zsub_n (zsub_s (zsub_n zsub_0)))) (ke s.1 (zinj h))
    · have h := zneg c h
      refine V_iload_n 21 rfl 1 dX10_most_20 rfl rfl ?_
      refine V_if_eq 24 38 rfl dX10_most_21 (by decide) (fun c => ?_) (fun c => ?_)
      · have h := zpos c h
        refine V_iload_n 39 rfl 2 dX10_most_38 rfl rfl ?_
        refine V_aload_n 40 rfl 0 dX10_most_39 rfl rfl ?_
        refine V_getr 43 rfl 46 0 dX10_most_40 fl_X10_38 rfl rfl rfl ?_
        refine V_iload_n 44 rfl 3 dX10_most_43 rfl rfl ?_
        obtain ⟨hi, h⟩ := zobd h
        refine V_iald 45 rfl dX10_most_44 rfl hi ?_
        refine V_mmax 48 rfl dX10_most_45 tb_1550 (Nat.le_trans (by decide) hd) (Nat.le_of_ble_eq_true rfl) ?_
        refine V_istore_n 49 rfl 2 (L' := [some (zK 10 0), some (zI v1), some (zI (if s.1 < ((gi mm 46 0 (zn s.2))) then ((gi mm 46 0 (zn s.2))) else s.1)), some (zI s.2)]) dX10_most_48 rfl (by decide) rfl ?_
        refine V_iinc 52 rfl (s.2 + 1) (L' := [some (zK 10 0), some (zI v1), some (zI (if s.1 < ((gi mm 46 0 (zn s.2))) then ((gi mm 46 0 (zn s.2))) else s.1)), some (zI (s.2 + 1))]) dX10_most_49 rfl rfl (by decide) rfl ?_
        refine V_goto 8 dX10_most_52 (by decide) ?_
        exact kc ((if s.1 < ((gi mm 46 0 (zn s.2))) then ((gi mm 46 0 (zn s.2))) else s.1), (s.2 + 1)) (zinj h)
      · have h := zneg c h
        refine V_iload_n 25 rfl 2 dX10_most_24 rfl rfl ?_
        refine V_aload_n 26 rfl 0 dX10_most_25 rfl rfl ?_
        refine V_iload_n 27 rfl 3 dX10_most_26 rfl rfl ?_
        refine V_iconst 28 rfl (v := 3) dX10_most_27 (by decide) ?_
        obtain ⟨x2, h1, h⟩ := zbd h
        refine V_cV 31 rfl 2 [zI s.2, zI 3] [zI s.1] dX10_most_28 cv_X10_285 (ctX10_flatSet (Nat.le_refl 2) h1) (Nat.le_trans (by decide) hd) rfl rfl (Nat.le_of_ble_eq_true rfl) zoki rfl ?_
        obtain ⟨x3, h1, h⟩ := zbd h
        refine V_cS 34 rfl 0 [zI x2] [zI s.1] dX10_most_31 cs_X10_300 (ctJ6_bitCount (Nat.le_refl 0) h1) (Nat.le_trans (by decide) hd) rfl rfl (Nat.le_of_ble_eq_true rfl) zoki rfl ?_
        refine V_iadd 35 rfl dX10_most_34 ?_
        refine V_goto 48 dX10_most_35 (by decide) ?_
        refine V_istore_n 49 rfl 2 (L' := [some (zK 10 0), some (zI v1), some (zI (s.1 + x3)), some (zI s.2)]) dX10_most_48 rfl (by decide) rfl ?_
        refine V_iinc 52 rfl (s.2 + 1) (L' := [some (zK 10 0), some (zI v1), some (zI (s.1 + x3)), some (zI (s.2 + 1))]) dX10_most_49 rfl rfl (by decide) rfl ?_
        refine V_goto 8 dX10_most_52 (by decide) ?_
        exact kc ((s.1 + x3), (s.2 + 1)) (zinj h)
theorem wX10_most {E : zE} {d : Nat} (hd : 5 ≤ d) {Q : Option zV → zM → Prop} {v1 : Int32} {mm : zM} {o : (Int32 × zM)} (h : fX10_most v1 mm = some o) (hQ : ∀ r, o = r → Q (some (zI r.1)) r.2) : V E RX10 cX10_most 4 (some .int) d Q 0 [some (zK 10 0), some (zI v1), none, none] [] mm := by
  unfold fX10_most at h
  refine V_aload_n 1 rfl 0 dX10_most_0 rfl rfl ?_
  obtain ⟨x1, h1, h⟩ := zbd h
  refine V_cV 4 rfl 4 [] [] dX10_most_1 cv_X10_279 (ctX10_lays_ (Nat.le_refl 4) h1) (Nat.le_trans (by decide) hd) rfl rfl (Nat.le_of_ble_eq_true rfl) zokn rfl ?_
  refine V_iconst 5 rfl (v := 0) dX10_most_4 (by decide) ?_
  refine V_istore_n 6 rfl 2 (L' := [some (zK 10 0), some (zI v1), some (zI 0), none]) dX10_most_5 rfl (by decide) rfl ?_
  refine V_iconst 7 rfl (v := 0) dX10_most_6 (by decide) ?_
  refine V_istore_n 8 rfl 3 (L' := [some (zK 10 0), some (zI v1), some (zI 0), some (zI 0)]) dX10_most_7 rfl (by decide) rfl ?_
  obtain ⟨o6, h1, h⟩ := zbd h
  refine wX10_most_L8 hd h1 (fun y4 e => ?_)
  have h := zcl_ e h
  refine V_iload_n 56 rfl 2 dX10_most_55 rfl rfl ?_
  exact V_iret dX10_most_56 rfl (hQ ((y4, x1)) (zinj h))
theorem ctX10_most {E : zE} {d : Nat} (hd : 5 ≤ d) {v1 : Int32} {mm : zM} {o : (Int32 × zM)} (h : fX10_most v1 mm = some o) : zOC E yX10_most cX10_most 4 (some .int) d [zK 10 0, zI v1] mm (some (zI o.1)) o.2 :=
  zCT_of (by decide) (Nat.le_of_ble_eq_true rfl) (zk_k (zk_i zk_0)) rfl (wX10_most hd h (fun r e => ⟨by rw [e], by rw [e]⟩))
def fX10_typesSo_J73 (v1 : Int32) (v2 : Int32) (v3 : Int32) (s0 : Int32) (mm : zM) : Option ((Int32 × Int32) ⊕ (Int32 ⊕ Empty)) :=
  (fX10_isTrait v3 mm).bind (fun x2 => if x2 = 0 then (if s0 = 0 then (some (.inl ((v2 ||| 0), (v3 + 1)))) else (some (.inl ((v2 ||| ((1 <<< (v3 &&& 31)))), (v3 + 1))))) else (some (.inl ((v2 ||| 0), (v3 + 1)))))
def fX10_typesSo_J72 (v1 : Int32) (v2 : Int32) (v3 : Int32) (mm : zM) : Option ((Int32 × Int32) ⊕ (Int32 ⊕ Empty)) :=
  fX10_typesSo_J73 v1 v2 v3 0 mm
def fX10_typesSo_L8 (v1 : Int32) (mm : zM) (s : (Int32 × Int32)) : Option ((Int32 × Int32) ⊕ (Int32 ⊕ Empty)) :=
  if (gi mm 38 0 (zn 1356)) ≤ s.2 then (some (.inr (.inl s.1))) else (if v1 = 3 then (zob (zin s.2 12) (if (gi mm 46 0 (zn s.2)) = 0 then (fX10_typesSo_J73 v1 s.1 s.2 1 mm) else (fX10_typesSo_J73 v1 s.1 s.2 0 mm))) else (zob (zin s.2 12) (if (gi mm 46 0 (zn s.2)) ≤ 0 then (fX10_typesSo_J72 v1 s.1 s.2 mm) else ((fX10_lacksOf s.2 mm).bind (fun x3 => if x3 = 0 then ((fX10_along s.2 3 mm).bind (fun x4 => if x4 = 0 then (fX10_typesSo_J73 v1 s.1 s.2 1 mm) else (fX10_typesSo_J72 v1 s.1 s.2 mm))) else (fX10_typesSo_J72 v1 s.1 s.2 mm))))))
def fX10_typesSo (v1 : Int32) (mm : zM) : Option (Int32 × zM) :=
  (fX10_lays_ mm).bind (fun x1 => (zloop (fX10_typesSo_L8 v1 x1) zF (0, 0)).bind (fun o7 => zcase o7 (fun y5 => some ((y5, x1))) (fun r6 => r6.elim)))
theorem wX10_typesSo_J73 {E : zE} {d : Nat} (hd : 5 ≤ d) {Q : Option zV → zM → Prop} {v1 : Int32} {v2 : Int32} {v3 : Int32} {s0 : Int32} {mm : zM} {o : ((Int32 × Int32) ⊕ (Int32 ⊕ Empty))} (h : fX10_typesSo_J73 v1 v2 v3 s0 mm = some o) (kc : ∀ s' : (Int32 × Int32), o = .inl s' → V E RX10 cX10_typesSo 5 (some .int) d Q 8 [some (zK 10 0), some (zI v1), some (zI s'.1), some (zI s'.2), none] [] mm) (ke : ∀ y : Int32, o = .inr (.inl y) → V E RX10 cX10_typesSo 5 (some .int) d Q 104 [none, none, some (zI y), none, none] [] mm) : V E RX10 cX10_typesSo 5 (some .int) d Q 73 [some (zK 10 0), some (zI v1), some (zI v2), some (zI v3), none] [zI s0] mm := by
  unfold fX10_typesSo_J73 at h
  refine V_istore 75 rfl (L' := [some (zK 10 0), some (zI v1), some (zI v2), some (zI v3), some (zI s0)]) dX10_typesSo_73 (by decide) rfl ?_
  refine V_iload_n 76 rfl 2 dX10_typesSo_75 rfl rfl ?_
  refine V_aload_n 77 rfl 0 dX10_typesSo_76 rfl rfl ?_
  refine V_iload_n 78 rfl 3 dX10_typesSo_77 rfl rfl ?_
  obtain ⟨x2, h1, h⟩ := zbd h
  refine V_cV 81 rfl 0 [zI v3] [zI v2] dX10_typesSo_78 cv_X10_204 (ctX10_isTrait (Nat.le_refl 0) h1) (Nat.le_trans (by decide) hd) rfl rfl (Nat.le_of_ble_eq_true rfl) zoki rfl ?_
  refine V_if_ne 84 95 rfl dX10_typesSo_81 (by decide) (fun c => ?_) (fun c => ?_)
  · have h := zneg c h
    refine V_iconst 96 rfl (v := 0) dX10_typesSo_95 (by decide) ?_
    refine V_ior 97 rfl dX10_typesSo_96 ?_
    refine V_istore_n 98 rfl 2 (L' := [some (zK 10 0), some (zI v1), some (zI (v2 ||| 0)), some (zI v3), some (zI s0)]) dX10_typesSo_97 rfl (by decide) rfl ?_
    refine V_iinc 101 rfl (v3 + 1) (L' := [some (zK 10 0), some (zI v1), some (zI (v2 ||| 0)), some (zI (v3 + 1)), some (zI s0)]) dX10_typesSo_98 rfl rfl (by decide) rfl ?_
    refine V_goto 8 dX10_typesSo_101 (by decide) ?_
    exact V_w (zsub_s (zsub_s (zsub_s (zsub_s (zsub_n zsub_0))))) (kc ((v2 ||| 0), (v3 + 1)) (zinj h))
  · have h := zpos c h
    refine V_iload 86 rfl dX10_typesSo_84 rfl ?_
    refine V_if_eq 89 95 rfl dX10_typesSo_86 (by decide) (fun c => ?_) (fun c => ?_)
    · have h := zpos c h
      refine V_iconst 96 rfl (v := 0) dX10_typesSo_95 (by decide) ?_
      refine V_ior 97 rfl dX10_typesSo_96 ?_
      refine V_istore_n 98 rfl 2 (L' := [some (zK 10 0), some (zI v1), some (zI (v2 ||| 0)), some (zI v3), some (zI s0)]) dX10_typesSo_97 rfl (by decide) rfl ?_
      refine V_iinc 101 rfl (v3 + 1) (L' := [some (zK 10 0), some (zI v1), some (zI (v2 ||| 0)), some (zI (v3 + 1)), some (zI s0)]) dX10_typesSo_98 rfl rfl (by decide) rfl ?_
      refine V_goto 8 dX10_typesSo_101 (by decide) ?_
      exact V_w (zsub_s (zsub_s (zsub_s (zsub_s (zsub_n zsub_0))))) (kc ((v2 ||| 0), (v3 + 1)) (zinj h))
    · have h := zneg c h
      refine V_iconst 90 rfl (v := 1) dX10_typesSo_89 (by decide) ?_
      refine V_iload_n 91 rfl 3 dX10_typesSo_90 rfl rfl ?_
      refine V_ishl 92 rfl dX10_typesSo_91 ?_
      refine V_goto 96 dX10_typesSo_92 (by decide) ?_
      refine V_ior 97 rfl dX10_typesSo_96 ?_
      refine V_istore_n 98 rfl 2 (L' := [some (zK 10 0), some (zI v1), some (zI (v2 ||| ((1 <<< (v3 &&& 31))))), some (zI v3), some (zI s0)]) dX10_typesSo_97 rfl (by decide) rfl ?_
      refine V_iinc 101 rfl (v3 + 1) (L' := [some (zK 10 0), some (zI v1), some (zI (v2 ||| ((1 <<< (v3 &&& 31))))), some (zI (v3 + 1)), some (zI s0)]) dX10_typesSo_98 rfl rfl (by decide) rfl ?_
      refine V_goto 8 dX10_typesSo_101 (by decide) ?_
      exact V_w (zsub_s (zsub_s (zsub_s (zsub_s (zsub_n zsub_0))))) (kc ((v2 ||| ((1 <<< (v3 &&& 31)))), (v3 + 1)) (zinj h))
theorem wX10_typesSo_J72 {E : zE} {d : Nat} (hd : 5 ≤ d) {Q : Option zV → zM → Prop} {v1 : Int32} {v2 : Int32} {v3 : Int32} {mm : zM} {o : ((Int32 × Int32) ⊕ (Int32 ⊕ Empty))} (h : fX10_typesSo_J72 v1 v2 v3 mm = some o) (kc : ∀ s' : (Int32 × Int32), o = .inl s' → V E RX10 cX10_typesSo 5 (some .int) d Q 8 [some (zK 10 0), some (zI v1), some (zI s'.1), some (zI s'.2), none] [] mm) (ke : ∀ y : Int32, o = .inr (.inl y) → V E RX10 cX10_typesSo 5 (some .int) d Q 104 [none, none, some (zI y), none, none] [] mm) : V E RX10 cX10_typesSo 5 (some .int) d Q 72 [some (zK 10 0), some (zI v1), some (zI v2), some (zI v3), none] [] mm := by
  unfold fX10_typesSo_J72 at h
  refine V_iconst 73 rfl (v := 0) dX10_typesSo_72 (by decide) ?_
  exact wX10_typesSo_J73 hd h kc ke
theorem wX10_typesSo_L8 {E : zE} {d : Nat} (hd : 5 ≤ d) {Q : Option zV → zM → Prop} {v1 : Int32} {mm : zM} {n : Nat} {s : (Int32 × Int32)} {o : Int32 ⊕ Empty} (h : zloop (fX10_typesSo_L8 v1 mm) n s = some o) (he : ∀ y : Int32, o = .inl y → V E RX10 cX10_typesSo 5 (some .int) d Q 104 [none, none, some (zI y), none, none] [] mm) : V E RX10 cX10_typesSo 5 (some .int) d Q 8 [some (zK 10 0), some (zI v1), some (zI s.1), some (zI s.2), none] [] mm := by
  induction n generalizing s with
  | zero => exact (zloop_0 h).elim
  | succ n ih =>
    obtain ⟨o1, h1, hc1, he1⟩ := zloop_s h
    have kc : ∀ s' : (Int32 × Int32), o1 = .inl s' → V E RX10 cX10_typesSo 5 (some .int) d Q 8 [some (zK 10 0), some (zI v1), some (zI s'.1), some (zI s'.2), none] [] mm := fun s' e => ih (hc1 s' e)
    have ke : ∀ y : Int32, o1 = .inr (.inl y) → V E RX10 cX10_typesSo 5 (some .int) d Q 104 [none, none, some (zI y), none, none] [] mm := fun y e => he y (he1 _ e)
    clear h hc1 he1 ih
    have h := h1
    clear h1
    unfold fX10_typesSo_L8 at h
    refine V_iload_n 9 rfl 3 dX10_typesSo_8 rfl rfl ?_
    refine V_aload_n 10 rfl 0 dX10_typesSo_9 rfl rfl ?_
    refine V_getr 13 rfl 38 0 dX10_typesSo_10 fl_X10_11 rfl rfl rfl ?_
    refine V_sipush 16 rfl (v := 1356) dX10_typesSo_13 (by decide) ?_
    refine V_iald 17 rfl dX10_typesSo_16 rfl (by decide) ?_
    refine V_icmp_ge 20 104 rfl dX10_typesSo_17 (by decide) (fun c => ?_) (fun c => ?_)
    · have h := zpos c h
      exact V_w (zsub_n (zsub_n (zsub_s (zsub_n (zsub_s zsub_0))))) (ke s.1 (zinj h))
    · have h := zneg c h
      refine V_iload_n 21 rfl 1 dX10_typesSo_20 rfl rfl ?_
      refine V_iconst 22 rfl (v := 3) dX10_typesSo_21 (by decide) ?_
      refine V_icmp_ne 25 42 rfl dX10_typesSo_22 (by decide) (fun c => ?_) (fun c => ?_)
      · have h := zneg c h
        refine V_aload_n 43 rfl 0 dX10_typesSo_42 rfl rfl ?_
        refine V_getr 46 rfl 46 0 dX10_typesSo_43 fl_X10_38 rfl rfl rfl ?_
        refine V_iload_n 47 rfl 3 dX10_typesSo_46 rfl rfl ?_
        obtain ⟨hi, h⟩ := zobd h
        refine V_iald 48 rfl dX10_typesSo_47 rfl hi ?_
        refine V_if_le 51 72 rfl dX10_typesSo_48 (by decide) (fun c => ?_) (fun c => ?_)
        · have h := zpos c h
          exact wX10_typesSo_J72 hd h kc ke
        · have h := zneg c h
          refine V_aload_n 52 rfl 0 dX10_typesSo_51 rfl rfl ?_
          refine V_iload_n 53 rfl 3 dX10_typesSo_52 rfl rfl ?_
          obtain ⟨x3, h1, h⟩ := zbd h
          refine V_cV 56 rfl 4 [zI s.2] [] dX10_typesSo_53 cv_X10_345 (ctX10_lacksOf (Nat.le_refl 4) h1) (Nat.le_trans (by decide) hd) rfl rfl (Nat.le_of_ble_eq_true rfl) zoki rfl ?_
          refine V_if_ne 59 72 rfl dX10_typesSo_56 (by decide) (fun c => ?_) (fun c => ?_)
          · have h := zneg c h
            exact wX10_typesSo_J72 hd h kc ke
          · have h := zpos c h
            refine V_aload_n 60 rfl 0 dX10_typesSo_59 rfl rfl ?_
            refine V_iload_n 61 rfl 3 dX10_typesSo_60 rfl rfl ?_
            refine V_iconst 62 rfl (v := 3) dX10_typesSo_61 (by decide) ?_
            obtain ⟨x4, h1, h⟩ := zbd h
            refine V_cV 65 rfl 3 [zI s.2, zI 3] [] dX10_typesSo_62 cv_X10_342 (ctX10_along (Nat.le_refl 3) h1) (Nat.le_trans (by decide) hd) rfl rfl (Nat.le_of_ble_eq_true rfl) zoki rfl ?_
            refine V_if_ne 68 72 rfl dX10_typesSo_65 (by decide) (fun c => ?_) (fun c => ?_)
            · have h := zneg c h
              exact wX10_typesSo_J72 hd h kc ke
            · have h := zpos c h
              refine V_iconst 69 rfl (v := 1) dX10_typesSo_68 (by decide) ?_
              refine V_goto 73 dX10_typesSo_69 (by decide) ?_
              exact wX10_typesSo_J73 hd h kc ke
      · have h := zpos c h
        refine V_aload_n 26 rfl 0 dX10_typesSo_25 rfl rfl ?_
        refine V_getr 29 rfl 46 0 dX10_typesSo_26 fl_X10_38 rfl rfl rfl ?_
        refine V_iload_n 30 rfl 3 dX10_typesSo_29 rfl rfl ?_
        obtain ⟨hi, h⟩ := zobd h
        refine V_iald 31 rfl dX10_typesSo_30 rfl hi ?_
        refine V_if_ne 34 38 rfl dX10_typesSo_31 (by decide) (fun c => ?_) (fun c => ?_)
        · have h := zneg c h
          refine V_iconst 39 rfl (v := 0) dX10_typesSo_38 (by decide) ?_
          refine V_goto 73 dX10_typesSo_39 (by decide) ?_
          exact wX10_typesSo_J73 hd h kc ke
        · have h := zpos c h
          refine V_iconst 35 rfl (v := 1) dX10_typesSo_34 (by decide) ?_
          refine V_goto 73 dX10_typesSo_35 (by decide) ?_
          exact wX10_typesSo_J73 hd h kc ke
theorem wX10_typesSo {E : zE} {d : Nat} (hd : 5 ≤ d) {Q : Option zV → zM → Prop} {v1 : Int32} {mm : zM} {o : (Int32 × zM)} (h : fX10_typesSo v1 mm = some o) (hQ : ∀ r, o = r → Q (some (zI r.1)) r.2) : V E RX10 cX10_typesSo 5 (some .int) d Q 0 [some (zK 10 0), some (zI v1), none, none, none] [] mm := by
  unfold fX10_typesSo at h
  refine V_aload_n 1 rfl 0 dX10_typesSo_0 rfl rfl ?_
  obtain ⟨x1, h1, h⟩ := zbd h
  refine V_cV 4 rfl 4 [] [] dX10_typesSo_1 cv_X10_279 (ctX10_lays_ (Nat.le_refl 4) h1) (Nat.le_trans (by decide) hd) rfl rfl (Nat.le_of_ble_eq_true rfl) zokn rfl ?_
  refine V_iconst 5 rfl (v := 0) dX10_typesSo_4 (by decide) ?_
  refine V_istore_n 6 rfl 2 (L' := [some (zK 10 0), some (zI v1), some (zI 0), none, none]) dX10_typesSo_5 rfl (by decide) rfl ?_
  refine V_iconst 7 rfl (v := 0) dX10_typesSo_6 (by decide) ?_
  refine V_istore_n 8 rfl 3 (L' := [some (zK 10 0), some (zI v1), some (zI 0), some (zI 0), none]) dX10_typesSo_7 rfl (by decide) rfl ?_
  obtain ⟨o7, h1, h⟩ := zbd h
  refine wX10_typesSo_L8 hd h1 (fun y5 e => ?_)
  have h := zcl_ e h
  refine V_iload_n 105 rfl 2 dX10_typesSo_104 rfl rfl ?_
  exact V_iret dX10_typesSo_105 rfl (hQ ((y5, x1)) (zinj h))
theorem ctX10_typesSo {E : zE} {d : Nat} (hd : 5 ≤ d) {v1 : Int32} {mm : zM} {o : (Int32 × zM)} (h : fX10_typesSo v1 mm = some o) : zOC E yX10_typesSo cX10_typesSo 5 (some .int) d [zK 10 0, zI v1] mm (some (zI o.1)) o.2 :=
  zCT_of (by decide) (Nat.le_of_ble_eq_true rfl) (zk_k (zk_i zk_0)) rfl (wX10_typesSo hd h (fun r e => ⟨by rw [e], by rw [e]⟩))
def fX10_traits_L4 (mm : zM) (s : (Int32 × Int32)) : Option ((Int32 × Int32) ⊕ (Int32 ⊕ Empty)) :=
  if (gi mm 38 0 (zn 1356)) ≤ s.2 then (some (.inr (.inl s.1))) else ((fX10_isTrait s.2 mm).bind (fun x1 => (fX10_truth x1 mm).bind (fun x2 => some (.inl ((s.1 + x2), (s.2 + 1))))))
def fX10_traits (mm : zM) : Option Int32 :=
  (zloop (fX10_traits_L4 mm) zF (0, 0)).bind (fun o5 => zcase o5 (fun y3 => some y3) (fun r4 => r4.elim))
theorem wX10_traits_L4 {E : zE} {d : Nat} (hd : 1 ≤ d) {Q : Option zV → zM → Prop} {mm : zM} {n : Nat} {s : (Int32 × Int32)} {o : Int32 ⊕ Empty} (h : zloop (fX10_traits_L4 mm) n s = some o) (he : ∀ y : Int32, o = .inl y → V E RX10 cX10_traits 3 (some .int) d Q 33 [none, some (zI y), none] [] mm) : V E RX10 cX10_traits 3 (some .int) d Q 4 [some (zK 10 0), some (zI s.1), some (zI s.2)] [] mm := by
  induction n generalizing s with
  | zero => exact (zloop_0 h).elim
  | succ n ih =>
    obtain ⟨o1, h1, hc1, he1⟩ := zloop_s h
    have kc : ∀ s' : (Int32 × Int32), o1 = .inl s' → V E RX10 cX10_traits 3 (some .int) d Q 4 [some (zK 10 0), some (zI s'.1), some (zI s'.2)] [] mm := fun s' e => ih (hc1 s' e)
    have ke : ∀ y : Int32, o1 = .inr (.inl y) → V E RX10 cX10_traits 3 (some .int) d Q 33 [none, some (zI y), none] [] mm := fun y e => he y (he1 _ e)
    clear h hc1 he1 ih
    have h := h1
    clear h1
    unfold fX10_traits_L4 at h
    refine V_iload_n 5 rfl 2 dX10_traits_4 rfl rfl ?_
    refine V_aload_n 6 rfl 0 dX10_traits_5 rfl rfl ?_
    refine V_getr 9 rfl 38 0 dX10_traits_6 fl_X10_11 rfl rfl rfl ?_
    refine V_sipush 12 rfl (v := 1356) dX10_traits_9 (by decide) ?_
    refine V_iald 13 rfl dX10_traits_12 rfl (by decide) ?_
    refine V_icmp_ge 16 33 rfl dX10_traits_13 (by decide) (fun c => ?_) (fun c => ?_)
    · have h := zpos c h
      exact V_w (zsub_n (zsub_s (zsub_n zsub_0))) (ke s.1 (zinj h))
    · have h := zneg c h
      refine V_iload_n 17 rfl 1 dX10_traits_16 rfl rfl ?_
      refine V_aload_n 18 rfl 0 dX10_traits_17 rfl rfl ?_
      refine V_iload_n 19 rfl 2 dX10_traits_18 rfl rfl ?_
      obtain ⟨x1, h1, h⟩ := zbd h
      refine V_cV 22 rfl 0 [zI s.2] [zI s.1] dX10_traits_19 cv_X10_204 (ctX10_isTrait (Nat.le_refl 0) h1) (Nat.le_trans (by decide) hd) rfl rfl (Nat.le_of_ble_eq_true rfl) zoki rfl ?_
      obtain ⟨x2, h1, h⟩ := zbd h
      refine V_cS 25 rfl 0 [zI x1] [zI s.1] dX10_traits_22 cs_X10_104 (ctX10_truth (Nat.le_refl 0) h1) (Nat.le_trans (by decide) hd) rfl rfl (Nat.le_of_ble_eq_true rfl) zoki rfl ?_
      refine V_iadd 26 rfl dX10_traits_25 ?_
      refine V_istore_n 27 rfl 1 (L' := [some (zK 10 0), some (zI (s.1 + x2)), some (zI s.2)]) dX10_traits_26 rfl (by decide) rfl ?_
      refine V_iinc 30 rfl (s.2 + 1) (L' := [some (zK 10 0), some (zI (s.1 + x2)), some (zI (s.2 + 1))]) dX10_traits_27 rfl rfl (by decide) rfl ?_
      refine V_goto 4 dX10_traits_30 (by decide) ?_
      exact kc ((s.1 + x2), (s.2 + 1)) (zinj h)
theorem wX10_traits {E : zE} {d : Nat} (hd : 1 ≤ d) {Q : Option zV → zM → Prop} {mm : zM} {o : Int32} (h : fX10_traits mm = some o) (hQ : ∀ r, o = r → Q (some (zI r)) mm) : V E RX10 cX10_traits 3 (some .int) d Q 0 [some (zK 10 0), none, none] [] mm := by
  unfold fX10_traits at h
  refine V_iconst 1 rfl (v := 0) dX10_traits_0 (by decide) ?_
  refine V_istore_n 2 rfl 1 (L' := [some (zK 10 0), some (zI 0), none]) dX10_traits_1 rfl (by decide) rfl ?_
  refine V_iconst 3 rfl (v := 0) dX10_traits_2 (by decide) ?_
  refine V_istore_n 4 rfl 2 (L' := [some (zK 10 0), some (zI 0), some (zI 0)]) dX10_traits_3 rfl (by decide) rfl ?_
  obtain ⟨o5, h1, h⟩ := zbd h
  refine wX10_traits_L4 hd h1 (fun y3 e => ?_)
  have h := zcl_ e h
  refine V_iload_n 34 rfl 1 dX10_traits_33 rfl rfl ?_
  exact V_iret dX10_traits_34 rfl (hQ y3 (zinj h))
theorem ctX10_traits {E : zE} {d : Nat} (hd : 1 ≤ d) {mm : zM} {o : Int32} (h : fX10_traits mm = some o) : zOC E yX10_traits cX10_traits 3 (some .int) d [zK 10 0] mm (some (zI o)) mm :=
  zCT_of (by decide) (Nat.le_of_ble_eq_true rfl) (zk_k zk_0) rfl (wX10_traits hd h (fun r e => ⟨by rw [e], rfl⟩))
def fX10_count (v1 : Int32) (mm : zM) : Option (Int32 × zM) :=
  if v1 = 0 then (some (((gi mm 38 0 (zn 1356)), mm))) else (if v1 = 1 then ((fX10_traits mm).bind (fun x9 => some (((((gi mm 38 0 (zn 1356))) - x9), mm)))) else (if v1 = 2 then ((fX10_traits mm).bind (fun x8 => some ((x8, mm)))) else (if v1 = 3 then ((fX10_typesSo v1 mm).bind (fun x7 => some ((x7.1, x7.2)))) else (if v1 = 4 then ((fX10_typesSo v1 mm).bind (fun x6 => some ((x6.1, x6.2)))) else (if v1 = 5 then ((fX10_most 0 mm).bind (fun x5 => some ((x5.1, x5.2)))) else (if v1 = 6 then ((fX10_most 1 mm).bind (fun x4 => some ((x4.1, x4.2)))) else (if v1 = 7 then (some (((gi mm 10 0 5), mm))) else (if v1 = 8 then (some (((gi mm 10 0 7), mm))) else (if v1 = 9 then ((fX10_truth ((gi mm 42 0 (zn 0))) mm).bind (fun x2 => (fX10_truth ((gi mm 42 0 (zn 1))) mm).bind (fun x3 => some (((x2 ||| ((x3 <<< (1 &&& 31)))), mm))))) else (if v1 = 10 then ((fX10_lowest mm).bind (fun x1 => some ((x1, mm)))) else (some (((-1), mm)))))))))))))
theorem wX10_count {E : zE} {d : Nat} (hd : 6 ≤ d) {Q : Option zV → zM → Prop} {v1 : Int32} {mm : zM} {o : (Int32 × zM)} (h : fX10_count v1 mm = some o) (hQ : ∀ r, o = r → Q (some (zI r.1)) r.2) : V E RX10 cX10_count 2 (some .int) d Q 0 [some (zK 10 0), some (zI v1)] [] mm := by
  unfold fX10_count at h
  refine V_iload_n 1 rfl 1 dX10_count_0 rfl rfl ?_
  by_cases h_0 : v1 = 0
  · have h := zpos h_0 h
    refine V_tabIn 60 (off := 59) dX10_count_1 (by rw [h_0]; decide) (by rw [h_0]; decide) (by rw [h_0]; decide) (by decide) ?_
    refine V_aload_n 61 rfl 0 dX10_count_60 rfl rfl ?_
    refine V_getr 64 rfl 38 0 dX10_count_61 fl_X10_11 rfl rfl rfl ?_
    refine V_sipush 67 rfl (v := 1356) dX10_count_64 (by decide) ?_
    refine V_iald 68 rfl dX10_count_67 rfl (by decide) ?_
    exact V_iret dX10_count_68 rfl (hQ (((gi mm 38 0 (zn 1356)), mm)) (zinj h))
  · have h := zneg h_0 h
    by_cases h_1 : v1 = 1
    · have h := zpos h_1 h
      refine V_tabIn 69 (off := 68) dX10_count_1 (by rw [h_1]; decide) (by rw [h_1]; decide) (by rw [h_1]; decide) (by decide) ?_
      refine V_aload_n 70 rfl 0 dX10_count_69 rfl rfl ?_
      refine V_getr 73 rfl 38 0 dX10_count_70 fl_X10_11 rfl rfl rfl ?_
      refine V_sipush 76 rfl (v := 1356) dX10_count_73 (by decide) ?_
      refine V_iald 77 rfl dX10_count_76 rfl (by decide) ?_
      refine V_aload_n 78 rfl 0 dX10_count_77 rfl rfl ?_
      obtain ⟨x9, h1, h⟩ := zbd h
      refine V_cV 81 rfl 1 [] [zI (gi mm 38 0 (zn 1356))] dX10_count_78 cv_X10_356 (ctX10_traits (Nat.le_refl 1) h1) (Nat.le_trans (by decide) hd) rfl rfl (Nat.le_of_ble_eq_true rfl) zoki rfl ?_
      refine V_isub 82 rfl dX10_count_81 ?_
      exact V_iret dX10_count_82 rfl (hQ (((((gi mm 38 0 (zn 1356))) - x9), mm)) (zinj h))
    · have h := zneg h_1 h
      by_cases h_2 : v1 = 2
      · have h := zpos h_2 h
        refine V_tabIn 83 (off := 82) dX10_count_1 (by rw [h_2]; decide) (by rw [h_2]; decide) (by rw [h_2]; decide) (by decide) ?_
        refine V_aload_n 84 rfl 0 dX10_count_83 rfl rfl ?_
        obtain ⟨x8, h1, h⟩ := zbd h
        refine V_cV 87 rfl 1 [] [] dX10_count_84 cv_X10_356 (ctX10_traits (Nat.le_refl 1) h1) (Nat.le_trans (by decide) hd) rfl rfl (Nat.le_of_ble_eq_true rfl) zoki rfl ?_
        exact V_iret dX10_count_87 rfl (hQ ((x8, mm)) (zinj h))
      · have h := zneg h_2 h
        by_cases h_3 : v1 = 3
        · have h := zpos h_3 h
          refine V_tabIn 88 (off := 87) dX10_count_1 (by rw [h_3]; decide) (by rw [h_3]; decide) (by rw [h_3]; decide) (by decide) ?_
          refine V_aload_n 89 rfl 0 dX10_count_88 rfl rfl ?_
          refine V_iload_n 90 rfl 1 dX10_count_89 rfl rfl ?_
          obtain ⟨x7, h1, h⟩ := zbd h
          refine V_cV 93 rfl 5 [zI v1] [] dX10_count_90 cv_X10_359 (ctX10_typesSo (Nat.le_refl 5) h1) (Nat.le_trans (by decide) hd) rfl rfl (Nat.le_of_ble_eq_true rfl) zoki rfl ?_
          exact V_iret dX10_count_93 rfl (hQ ((x7.1, x7.2)) (zinj h))
        · have h := zneg h_3 h
          by_cases h_4 : v1 = 4
          · have h := zpos h_4 h
            refine V_tabIn 88 (off := 87) dX10_count_1 (by rw [h_4]; decide) (by rw [h_4]; decide) (by rw [h_4]; decide) (by decide) ?_
            refine V_aload_n 89 rfl 0 dX10_count_88 rfl rfl ?_
            refine V_iload_n 90 rfl 1 dX10_count_89 rfl rfl ?_
            obtain ⟨x6, h1, h⟩ := zbd h
            refine V_cV 93 rfl 5 [zI v1] [] dX10_count_90 cv_X10_359 (ctX10_typesSo (Nat.le_refl 5) h1) (Nat.le_trans (by decide) hd) rfl rfl (Nat.le_of_ble_eq_true rfl) zoki rfl ?_
            exact V_iret dX10_count_93 rfl (hQ ((x6.1, x6.2)) (zinj h))
          · have h := zneg h_4 h
            by_cases h_5 : v1 = 5
            · have h := zpos h_5 h
              refine V_tabIn 94 (off := 93) dX10_count_1 (by rw [h_5]; decide) (by rw [h_5]; decide) (by rw [h_5]; decide) (by decide) ?_
              refine V_aload_n 95 rfl 0 dX10_count_94 rfl rfl ?_
              refine V_iconst 96 rfl (v := 0) dX10_count_95 (by decide) ?_
              obtain ⟨x5, h1, h⟩ := zbd h
              refine V_cV 99 rfl 5 [zI 0] [] dX10_count_96 cv_X10_362 (ctX10_most (Nat.le_refl 5) h1) (Nat.le_trans (by decide) hd) rfl rfl (Nat.le_of_ble_eq_true rfl) zoki rfl ?_
              exact V_iret dX10_count_99 rfl (hQ ((x5.1, x5.2)) (zinj h))
            · have h := zneg h_5 h
              by_cases h_6 : v1 = 6
              · have h := zpos h_6 h
                refine V_tabIn 100 (off := 99) dX10_count_1 (by rw [h_6]; decide) (by rw [h_6]; decide) (by rw [h_6]; decide) (by decide) ?_
                refine V_aload_n 101 rfl 0 dX10_count_100 rfl rfl ?_
                refine V_iconst 102 rfl (v := 1) dX10_count_101 (by decide) ?_
                obtain ⟨x4, h1, h⟩ := zbd h
                refine V_cV 105 rfl 5 [zI 1] [] dX10_count_102 cv_X10_362 (ctX10_most (Nat.le_refl 5) h1) (Nat.le_trans (by decide) hd) rfl rfl (Nat.le_of_ble_eq_true rfl) zoki rfl ?_
                exact V_iret dX10_count_105 rfl (hQ ((x4.1, x4.2)) (zinj h))
              · have h := zneg h_6 h
                by_cases h_7 : v1 = 7
                · have h := zpos h_7 h
                  refine V_tabIn 106 (off := 105) dX10_count_1 (by rw [h_7]; decide) (by rw [h_7]; decide) (by rw [h_7]; decide) (by decide) ?_
                  refine V_aload_n 107 rfl 0 dX10_count_106 rfl rfl ?_
                  refine V_geti 110 rfl dX10_count_107 fl_X10_198 rfl ?_
                  exact V_iret dX10_count_110 rfl (hQ (((gi mm 10 0 5), mm)) (zinj h))
                · have h := zneg h_7 h
                  by_cases h_8 : v1 = 8
                  · have h := zpos h_8 h
                    refine V_tabIn 111 (off := 110) dX10_count_1 (by rw [h_8]; decide) (by rw [h_8]; decide) (by rw [h_8]; decide) (by decide) ?_
                    refine V_aload_n 112 rfl 0 dX10_count_111 rfl rfl ?_
                    refine V_geti 115 rfl dX10_count_112 fl_X10_63 rfl ?_
                    exact V_iret dX10_count_115 rfl (hQ (((gi mm 10 0 7), mm)) (zinj h))
                  · have h := zneg h_8 h
                    by_cases h_9 : v1 = 9
                    · have h := zpos h_9 h
                      refine V_tabIn 116 (off := 115) dX10_count_1 (by rw [h_9]; decide) (by rw [h_9]; decide) (by rw [h_9]; decide) (by decide) ?_
                      refine V_aload_n 117 rfl 0 dX10_count_116 rfl rfl ?_
                      refine V_getr 120 rfl 42 0 dX10_count_117 fl_X10_24 rfl rfl rfl ?_
                      refine V_iconst 121 rfl (v := 0) dX10_count_120 (by decide) ?_
                      refine V_zald 122 rfl dX10_count_121 rfl (by decide) ?_
                      obtain ⟨x2, h1, h⟩ := zbd h
                      refine V_cS 125 rfl 0 [zI (gi mm 42 0 (zn 0))] [] dX10_count_122 cs_X10_104 (ctX10_truth (Nat.le_refl 0) h1) (Nat.le_trans (by decide) hd) rfl rfl (Nat.le_of_ble_eq_true rfl) zoki rfl ?_
                      refine V_aload_n 126 rfl 0 dX10_count_125 rfl rfl ?_
                      refine V_getr 129 rfl 42 0 dX10_count_126 fl_X10_24 rfl rfl rfl ?_
                      refine V_iconst 130 rfl (v := 1) dX10_count_129 (by decide) ?_
                      refine V_zald 131 rfl dX10_count_130 rfl (by decide) ?_
                      obtain ⟨x3, h1, h⟩ := zbd h
                      refine V_cS 134 rfl 0 [zI (gi mm 42 0 (zn 1))] [zI x2] dX10_count_131 cs_X10_104 (ctX10_truth (Nat.le_refl 0) h1) (Nat.le_trans (by decide) hd) rfl rfl (Nat.le_of_ble_eq_true rfl) zoki rfl ?_
                      refine V_iconst 135 rfl (v := 1) dX10_count_134 (by decide) ?_
                      refine V_ishl 136 rfl dX10_count_135 ?_
                      refine V_ior 137 rfl dX10_count_136 ?_
                      exact V_iret dX10_count_137 rfl (hQ (((x2 ||| ((x3 <<< (1 &&& 31)))), mm)) (zinj h))
                    · have h := zneg h_9 h
                      by_cases h_10 : v1 = 10
                      · have h := zpos h_10 h
                        refine V_tabIn 138 (off := 137) dX10_count_1 (by rw [h_10]; decide) (by rw [h_10]; decide) (by rw [h_10]; decide) (by decide) ?_
                        refine V_aload_n 139 rfl 0 dX10_count_138 rfl rfl ?_
                        obtain ⟨x1, h1, h⟩ := zbd h
                        refine V_cV 142 rfl 1 [] [] dX10_count_139 cv_X10_365 (ctX10_lowest (Nat.le_refl 1) h1) (Nat.le_trans (by decide) hd) rfl rfl (Nat.le_of_ble_eq_true rfl) zoki rfl ?_
                        exact V_iret dX10_count_142 rfl (hQ ((x1, mm)) (zinj h))
                      · have h := zneg h_10 h
                        refine V_tabOut 143 dX10_count_1 (by have n0 := zne h_0; simp only [show ((0 : Int32)).toInt = 0 from by decide] at n0; have n1 := zne h_1; simp only [show ((1 : Int32)).toInt = 1 from by decide] at n1; have n2 := zne h_2; simp only [show ((2 : Int32)).toInt = 2 from by decide] at n2; have n3 := zne h_3; simp only [show ((3 : Int32)).toInt = 3 from by decide] at n3; have n4 := zne h_4; simp only [show ((4 : Int32)).toInt = 4 from by decide] at n4; have n5 := zne h_5; simp only [show ((5 : Int32)).toInt = 5 from by decide] at n5; have n6 := zne h_6; simp only [show ((6 : Int32)).toInt = 6 from by decide] at n6; have n7 := zne h_7; simp only [show ((7 : Int32)).toInt = 7 from by decide] at n7; have n8 := zne h_8; simp only [show ((8 : Int32)).toInt = 8 from by decide] at n8; have n9 := zne h_9; simp only [show ((9 : Int32)).toInt = 9 from by decide] at n9; have n10 := zne h_10; simp only [show ((10 : Int32)).toInt = 10 from by decide] at n10; omega) (by decide) ?_
                        refine V_iconst 144 rfl (v := (-1)) dX10_count_143 (by decide) ?_
                        exact V_iret dX10_count_144 rfl (hQ (((-1), mm)) (zinj h))
theorem ctX10_count {E : zE} {d : Nat} (hd : 6 ≤ d) {v1 : Int32} {mm : zM} {o : (Int32 × zM)} (h : fX10_count v1 mm = some o) : zOC E yX10_count cX10_count 2 (some .int) d [zK 10 0, zI v1] mm (some (zI o.1)) o.2 :=
  zCT_of (by decide) (Nat.le_of_ble_eq_true rfl) (zk_k (zk_i zk_0)) rfl (wX10_count hd h (fun r e => ⟨by rw [e], by rw [e]⟩))
