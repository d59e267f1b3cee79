def fX9_answers_L21 (v1 : Int32) (s : (Int32 × Int32 × zM)) : Option ((Int32 × Int32 × zM) ⊕ ((Int32 × zM) ⊕ Empty)) :=
  if 26 ≤ s.2.1 then (some (.inr (.inl (s.1, s.2.2)))) else ((fX9_runSend v1 s.2.1 s.2.2).bind (fun x4 => if (gi x4 6 0 4) = 0 then (some (.inl ((s.1 ||| ((1 <<< (s.2.1 &&& 31)))), (s.2.1 + 1), x4))) else (some (.inl (s.1, (s.2.1 + 1), x4)))))
def fX9_answers (v1 : Int32) (mm : zM) : Option (Int32 × zM) :=
  (gr mm 9 2).bind (fun j1 => (fX8_isType j1 v1 mm).bind (fun x2 => if x2 = 0 then (some (((-1), mm))) else ((fX9_settle mm).bind (fun x3 => (zloop (fX9_answers_L21 v1) zF (0, 0, x3)).bind (fun o7 => zcase o7 (fun y5 => some ((y5.1, y5.2))) (fun r6 => r6.elim))))))
theorem wX9_answers_L21 {E : zE} {d : Nat} (hd : 45 ≤ d) {Q : Option zV → zM → Prop} {v1 : Int32} {n : Nat} {s : (Int32 × Int32 × zM)} {o : (Int32 × zM) ⊕ Empty} (h : zloop (fX9_answers_L21 v1) n s = some o) (he : ∀ y : (Int32 × zM), o = .inl y → V E RX9 cX9_answers 4 (some .int) d Q 55 [none, none, some (zI y.1), none] [] y.2) : V E RX9 cX9_answers 4 (some .int) d Q 21 [some (zK 9 0), some (zI v1), some (zI s.1), some (zI s.2.1)] [] s.2.2 := by
  induction n generalizing s with
  | zero => exact (zloop_0 h).elim
  | succ n ih =>
    obtain ⟨o1, h1, hc1, he1⟩ := zloop_s h
    have kc : ∀ s' : (Int32 × Int32 × zM), o1 = .inl s' → V E RX9 cX9_answers 4 (some .int) d Q 21 [some (zK 9 0), some (zI v1), some (zI s'.1), some (zI s'.2.1)] [] s'.2.2 := fun s' e => ih (hc1 s' e)
    have ke : ∀ y : (Int32 × zM), o1 = .inr (.inl y) → V E RX9 cX9_answers 4 (some .int) d Q 55 [none, none, some (zI y.1), none] [] y.2 := fun y e => he y (he1 _ e)
    clear h hc1 he1 ih
    have h := h1
    clear h1
    unfold fX9_answers_L21 at h
    refine V_iload_n 22 rfl 3 dX9_answers_21 rfl rfl ?_
    refine V_bipush 24 rfl (v := 26) dX9_answers_22 (by decide) ?_
    refine V_icmp_ge 27 55 rfl dX9_answers_24 (by decide) (fun c => ?_) (fun c => ?_)
    · have h := zpos c h
      exact V_w (zsub_n (zsub_n (zsub_s (zsub_n zsub_0)))) (ke (s.1, s.2.2) (zinj h))
    · have h := zneg c h
      refine V_aload_n 28 rfl 0 dX9_answers_27 rfl rfl ?_
      refine V_iload_n 29 rfl 1 dX9_answers_28 rfl rfl ?_
      refine V_iload_n 30 rfl 3 dX9_answers_29 rfl rfl ?_
      obtain ⟨x4, h1, h⟩ := zbd h
      refine V_cV 33 rfl 44 [zI v1, zI s.2.1] [] dX9_answers_30 cv_X9_271 (ctX9_runSend (Nat.le_refl 44) h1) (Nat.le_trans (by decide) hd) rfl rfl (Nat.le_of_ble_eq_true rfl) zokn rfl ?_
      refine V_aload_n 34 rfl 0 dX9_answers_33 rfl rfl ?_
      refine V_getr 37 rfl 6 0 dX9_answers_34 fl_X9_65 rfl rfl rfl ?_
      refine V_geti 40 rfl dX9_answers_37 fl_X9_274 rfl ?_
      refine V_if_ne 43 49 rfl dX9_answers_40 (by decide) (fun c => ?_) (fun c => ?_)
      · have h := zneg c h
        refine V_iinc 52 rfl (s.2.1 + 1) (L' := [some (zK 9 0), some (zI v1), some (zI s.1), some (zI (s.2.1 + 1))]) dX9_answers_49 rfl rfl (by decide) rfl ?_
        refine V_goto 21 dX9_answers_52 (by decide) ?_
        exact kc (s.1, (s.2.1 + 1), x4) (zinj h)
      · have h := zpos c h
        refine V_iload_n 44 rfl 2 dX9_answers_43 rfl rfl ?_
        refine V_iconst 45 rfl (v := 1) dX9_answers_44 (by decide) ?_
        refine V_iload_n 46 rfl 3 dX9_answers_45 rfl rfl ?_
        refine V_ishl 47 rfl dX9_answers_46 ?_
        refine V_ior 48 rfl dX9_answers_47 ?_
        refine V_istore_n 49 rfl 2 (L' := [some (zK 9 0), some (zI v1), some (zI (s.1 ||| ((1 <<< (s.2.1 &&& 31))))), some (zI s.2.1)]) dX9_answers_48 rfl (by decide) rfl ?_
        refine V_iinc 52 rfl (s.2.1 + 1) (L' := [some (zK 9 0), some (zI v1), some (zI (s.1 ||| ((1 <<< (s.2.1 &&& 31))))), some (zI (s.2.1 + 1))]) dX9_answers_49 rfl rfl (by decide) rfl ?_
        refine V_goto 21 dX9_answers_52 (by decide) ?_
        exact kc ((s.1 ||| ((1 <<< (s.2.1 &&& 31)))), (s.2.1 + 1), x4) (zinj h)
theorem wX9_answers {E : zE} {d : Nat} (hd : 45 ≤ d) {Q : Option zV → zM → Prop} {v1 : Int32} {mm : zM} {o : (Int32 × zM)} (h : fX9_answers v1 mm = some o) (hQ : ∀ r, o = r → Q (some (zI r.1)) r.2) : V E RX9 cX9_answers 4 (some .int) d Q 0 [some (zK 9 0), some (zI v1), none, none] [] mm := by
  unfold fX9_answers at h
  refine V_aload_n 1 rfl 0 dX9_answers_0 rfl rfl ?_
  obtain ⟨j1, hj, h⟩ := zbd h
  refine V_getm 4 rfl 8 dX9_answers_1 fl_X9_16 rfl rfl hj ?_
  refine V_iload_n 5 rfl 1 dX9_answers_4 rfl rfl ?_
  obtain ⟨x2, h1, h⟩ := zbd h
  refine V_cV 8 rfl 1 [zI v1] [] dX9_answers_5 cv_X9_94 (ctX8_isType (Nat.le_refl 1) h1) (Nat.le_trans (by decide) hd) rfl rfl (Nat.le_of_ble_eq_true rfl) zoki rfl ?_
  refine V_if_ne 11 13 rfl dX9_answers_8 (by decide) (fun c => ?_) (fun c => ?_)
  · have h := zneg c h
    refine V_aload_n 14 rfl 0 dX9_answers_13 rfl rfl ?_
    obtain ⟨x3, h1, h⟩ := zbd h
    refine V_cV 17 rfl 4 [] [] dX9_answers_14 cv_X9_201 (ctX9_settle (Nat.le_refl 4) h1) (Nat.le_trans (by decide) hd) rfl rfl (Nat.le_of_ble_eq_true rfl) zokn rfl ?_
    refine V_iconst 18 rfl (v := 0) dX9_answers_17 (by decide) ?_
    refine V_istore_n 19 rfl 2 (L' := [some (zK 9 0), some (zI v1), some (zI 0), none]) dX9_answers_18 rfl (by decide) rfl ?_
    refine V_iconst 20 rfl (v := 0) dX9_answers_19 (by decide) ?_
    refine V_istore_n 21 rfl 3 (L' := [some (zK 9 0), some (zI v1), some (zI 0), some (zI 0)]) dX9_answers_20 rfl (by decide) rfl ?_
    obtain ⟨o7, h1, h⟩ := zbd h
    refine wX9_answers_L21 hd h1 (fun y5 e => ?_)
    have h := zcl_ e h
    refine V_iload_n 56 rfl 2 dX9_answers_55 rfl rfl ?_
    exact V_iret dX9_answers_56 rfl (hQ ((y5.1, y5.2)) (zinj h))
  · have h := zpos c h
    refine V_iconst 12 rfl (v := (-1)) dX9_answers_11 (by decide) ?_
    exact V_iret dX9_answers_12 rfl (hQ (((-1), mm)) (zinj h))
theorem ctX9_answers {E : zE} {d : Nat} (hd : 45 ≤ d) {v1 : Int32} {mm : zM} {o : (Int32 × zM)} (h : fX9_answers v1 mm = some o) : zOC E yX9_answers cX9_answers 4 (some .int) d [zK 9 0, zI v1] mm (some (zI o.1)) o.2 :=
  zCT_of (by decide) (Nat.le_of_ble_eq_true rfl) (zk_k (zk_i zk_0)) rfl (wX9_answers hd h (fun r e => ⟨by rw [e], by rw [e]⟩))
def fX9_alike_L30 (v1 : Int32) (v2 : Int32) (s : (Int32 × zM)) : Option ((Int32 × zM) ⊕ (zM ⊕ (Int32 × zM))) :=
  if 26 ≤ s.1 then (some (.inr (.inl s.2))) else ((fX9_runSend v1 s.1 s.2).bind (fun x6 => (fX9_runSend v2 s.1 x6).bind (fun x7 => if (gi x7 6 0 4) = (gi x6 6 0 4) then (if (gi x7 6 0 5) = (gi x6 6 0 5) then (some (.inl ((s.1 + 1), x7))) else (some (.inr (.inr ((0, x7)))))) else (some (.inr (.inr ((0, x7))))))))
def fX9_alike (v1 : Int32) (v2 : Int32) (mm : zM) : Option (Int32 × zM) :=
  (gr mm 9 2).bind (fun j1 => (fX8_isType j1 v1 mm).bind (fun x2 => if x2 = 0 then (some (((-1), mm))) else ((gr mm 9 2).bind (fun j3 => (fX8_isType j3 v2 mm).bind (fun x4 => if x4 = 0 then (some (((-1), mm))) else ((fX9_settle mm).bind (fun x5 => (zloop (fX9_alike_L30 v1 v2) zF (0, x5)).bind (fun o10 => zcase o10 (fun y8 => some ((1, y8))) (fun r9 => some r9)))))))))
theorem wX9_alike_L30 {E : zE} {d : Nat} (hd : 45 ≤ d) {Q : Option zV → zM → Prop} {v1 : Int32} {v2 : Int32} {n : Nat} {s : (Int32 × zM)} {o : zM ⊕ (Int32 × zM)} (h : zloop (fX9_alike_L30 v1 v2) n s = some o) (he : ∀ y : zM, o = .inl y → V E RX9 cX9_alike 6 (some .int) d Q 98 [none, none, none, none, none, none] [] y) (hr : ∀ r : (Int32 × zM), o = .inr r → Q (some (zI r.1)) r.2) : V E RX9 cX9_alike 6 (some .int) d Q 30 [some (zK 9 0), some (zI v1), some (zI v2), some (zI s.1), none, none] [] s.2 := by
  induction n generalizing s with
  | zero => exact (zloop_0 h).elim
  | succ n ih =>
    obtain ⟨o1, h1, hc1, he1⟩ := zloop_s h
    have kc : ∀ s' : (Int32 × zM), o1 = .inl s' → V E RX9 cX9_alike 6 (some .int) d Q 30 [some (zK 9 0), some (zI v1), some (zI v2), some (zI s'.1), none, none] [] s'.2 := fun s' e => ih (hc1 s' e)
    have ke : ∀ y : zM, o1 = .inr (.inl y) → V E RX9 cX9_alike 6 (some .int) d Q 98 [none, none, none, none, none, none] [] y := fun y e => he y (he1 _ e)
    have kr : ∀ r : (Int32 × zM), o1 = .inr (.inr r) → Q (some (zI r.1)) r.2 := fun r e => hr r (he1 _ e)
    clear h hc1 he1 ih
    have h := h1
    clear h1
    unfold fX9_alike_L30 at h
    refine V_iload_n 31 rfl 3 dX9_alike_30 rfl rfl ?_
    refine V_bipush 33 rfl (v := 26) dX9_alike_31 (by decide) ?_
    refine V_icmp_ge 36 98 rfl dX9_alike_33 (by decide) (fun c => ?_) (fun c => ?_)
    · have h := zpos c h
      exact V_w (zsub_n (zsub_n (zsub_n (zsub_n (zsub_s (zsub_s zsub_0)))))) (ke s.2 (zinj h))
    · have h := zneg c h
      refine V_aload_n 37 rfl 0 dX9_alike_36 rfl rfl ?_
      refine V_iload_n 38 rfl 1 dX9_alike_37 rfl rfl ?_
      refine V_iload_n 39 rfl 3 dX9_alike_38 rfl rfl ?_
      obtain ⟨x6, h1, h⟩ := zbd h
      refine V_cV 42 rfl 44 [zI v1, zI s.1] [] dX9_alike_39 cv_X9_271 (ctX9_runSend (Nat.le_refl 44) h1) (Nat.le_trans (by decide) hd) rfl rfl (Nat.le_of_ble_eq_true rfl) zokn rfl ?_
      refine V_aload_n 43 rfl 0 dX9_alike_42 rfl rfl ?_
      refine V_getr 46 rfl 6 0 dX9_alike_43 fl_X9_65 rfl rfl rfl ?_
      refine V_geti 49 rfl dX9_alike_46 fl_X9_274 rfl ?_
      refine V_istore 51 rfl (L' := [some (zK 9 0), some (zI v1), some (zI v2), some (zI s.1), some (zI (gi x6 6 0 4)), none]) dX9_alike_49 (by decide) rfl ?_
      refine V_aload_n 52 rfl 0 dX9_alike_51 rfl rfl ?_
      refine V_getr 55 rfl 6 0 dX9_alike_52 fl_X9_65 rfl rfl rfl ?_
      refine V_geti 58 rfl dX9_alike_55 fl_X9_277 rfl ?_
      refine V_istore 60 rfl (L' := [some (zK 9 0), some (zI v1), some (zI v2), some (zI s.1), some (zI (gi x6 6 0 4)), some (zI (gi x6 6 0 5))]) dX9_alike_58 (by decide) rfl ?_
      refine V_aload_n 61 rfl 0 dX9_alike_60 rfl rfl ?_
      refine V_iload_n 62 rfl 2 dX9_alike_61 rfl rfl ?_
      refine V_iload_n 63 rfl 3 dX9_alike_62 rfl rfl ?_
      obtain ⟨x7, h1, h⟩ := zbd h
      refine V_cV 66 rfl 44 [zI v2, zI s.1] [] dX9_alike_63 cv_X9_271 (ctX9_runSend (Nat.le_refl 44) h1) (Nat.le_trans (by decide) hd) rfl rfl (Nat.le_of_ble_eq_true rfl) zokn rfl ?_
      refine V_aload_n 67 rfl 0 dX9_alike_66 rfl rfl ?_
      refine V_getr 70 rfl 6 0 dX9_alike_67 fl_X9_65 rfl rfl rfl ?_
      refine V_geti 73 rfl dX9_alike_70 fl_X9_274 rfl ?_
      refine V_iload 75 rfl dX9_alike_73 rfl ?_
      refine V_icmp_ne 78 90 rfl dX9_alike_75 (by decide) (fun c => ?_) (fun c => ?_)
      · have h := zneg c h
        refine V_iconst 91 rfl (v := 0) dX9_alike_90 (by decide) ?_
        exact V_iret dX9_alike_91 rfl (kr ((0, x7)) (zinj h))
      · have h := zpos c h
        refine V_aload_n 79 rfl 0 dX9_alike_78 rfl rfl ?_
        refine V_getr 82 rfl 6 0 dX9_alike_79 fl_X9_65 rfl rfl rfl ?_
        refine V_geti 85 rfl dX9_alike_82 fl_X9_277 rfl ?_
        refine V_iload 87 rfl dX9_alike_85 rfl ?_
        refine V_icmp_eq 90 92 rfl dX9_alike_87 (by decide) (fun c => ?_) (fun c => ?_)
        · have h := zpos c h
          refine V_iinc 95 rfl (s.1 + 1) (L' := [some (zK 9 0), some (zI v1), some (zI v2), some (zI (s.1 + 1)), some (zI (gi x6 6 0 4)), some (zI (gi x6 6 0 5))]) dX9_alike_92 rfl rfl (by decide) rfl ?_
          refine V_goto 30 dX9_alike_95 (by decide) ?_
          exact V_w (zsub_s (zsub_s (zsub_s (zsub_s (zsub_n (zsub_n zsub_0)))))) (kc ((s.1 + 1), x7) (zinj h))
        · have h := zneg c h
          refine V_iconst 91 rfl (v := 0) dX9_alike_90 (by decide) ?_
          exact V_iret dX9_alike_91 rfl (kr ((0, x7)) (zinj h))
theorem wX9_alike {E : zE} {d : Nat} (hd : 45 ≤ d) {Q : Option zV → zM → Prop} {v1 : Int32} {v2 : Int32} {mm : zM} {o : (Int32 × zM)} (h : fX9_alike v1 v2 mm = some o) (hQ : ∀ r, o = r → Q (some (zI r.1)) r.2) : V E RX9 cX9_alike 6 (some .int) d Q 0 [some (zK 9 0), some (zI v1), some (zI v2), none, none, none] [] mm := by
  unfold fX9_alike at h
  refine V_aload_n 1 rfl 0 dX9_alike_0 rfl rfl ?_
  obtain ⟨j1, hj, h⟩ := zbd h
  refine V_getm 4 rfl 8 dX9_alike_1 fl_X9_16 rfl rfl hj ?_
  refine V_iload_n 5 rfl 1 dX9_alike_4 rfl rfl ?_
  obtain ⟨x2, h1, h⟩ := zbd h
  refine V_cV 8 rfl 1 [zI v1] [] dX9_alike_5 cv_X9_94 (ctX8_isType (Nat.le_refl 1) h1) (Nat.le_trans (by decide) hd) rfl rfl (Nat.le_of_ble_eq_true rfl) zoki rfl ?_
  refine V_if_eq 11 22 rfl dX9_alike_8 (by decide) (fun c => ?_) (fun c => ?_)
  · have h := zpos c h
    refine V_iconst 23 rfl (v := (-1)) dX9_alike_22 (by decide) ?_
    exact V_iret dX9_alike_23 rfl (hQ (((-1), mm)) (zinj h))
  · have h := zneg c h
    refine V_aload_n 12 rfl 0 dX9_alike_11 rfl rfl ?_
    obtain ⟨j3, hj, h⟩ := zbd h
    refine V_getm 15 rfl 8 dX9_alike_12 fl_X9_16 rfl rfl hj ?_
    refine V_iload_n 16 rfl 2 dX9_alike_15 rfl rfl ?_
    obtain ⟨x4, h1, h⟩ := zbd h
    refine V_cV 19 rfl 1 [zI v2] [] dX9_alike_16 cv_X9_94 (ctX8_isType (Nat.le_refl 1) h1) (Nat.le_trans (by decide) hd) rfl rfl (Nat.le_of_ble_eq_true rfl) zoki rfl ?_
    refine V_if_ne 22 24 rfl dX9_alike_19 (by decide) (fun c => ?_) (fun c => ?_)
    · have h := zneg c h
      refine V_aload_n 25 rfl 0 dX9_alike_24 rfl rfl ?_
      obtain ⟨x5, h1, h⟩ := zbd h
      refine V_cV 28 rfl 4 [] [] dX9_alike_25 cv_X9_201 (ctX9_settle (Nat.le_refl 4) h1) (Nat.le_trans (by decide) hd) rfl rfl (Nat.le_of_ble_eq_true rfl) zokn rfl ?_
      refine V_iconst 29 rfl (v := 0) dX9_alike_28 (by decide) ?_
      refine V_istore_n 30 rfl 3 (L' := [some (zK 9 0), some (zI v1), some (zI v2), some (zI 0), none, none]) dX9_alike_29 rfl (by decide) rfl ?_
      obtain ⟨o10, h1, h⟩ := zbd h
      refine wX9_alike_L30 hd h1 (fun y8 e => ?_) (fun r e => by have h := zcr_ e h; exact hQ r (zinj h))
      have h := zcl_ e h
      refine V_iconst 99 rfl (v := 1) dX9_alike_98 (by decide) ?_
      exact V_iret dX9_alike_99 rfl (hQ ((1, y8)) (zinj h))
    · have h := zpos c h
      refine V_iconst 23 rfl (v := (-1)) dX9_alike_22 (by decide) ?_
      exact V_iret dX9_alike_23 rfl (hQ (((-1), mm)) (zinj h))
theorem ctX9_alike {E : zE} {d : Nat} (hd : 45 ≤ d) {v1 : Int32} {v2 : Int32} {mm : zM} {o : (Int32 × zM)} (h : fX9_alike v1 v2 mm = some o) : zOC E yX9_alike cX9_alike 6 (some .int) d [zK 9 0, zI v1, zI v2] mm (some (zI o.1)) o.2 :=
  zCT_of (by decide) (Nat.le_of_ble_eq_true rfl) (zk_k (zk_i (zk_i zk_0))) rfl (wX9_alike hd h (fun r e => ⟨by rw [e], by rw [e]⟩))
def fX9_origins (v1 : Int32) (v2 : Int32) (mm : zM) : Option (Int32 × zM) :=
  (gr mm 9 2).bind (fun j1 => (fX8_isType j1 v1 mm).bind (fun x2 => if x2 = 0 then (some (((-1), mm))) else ((fX9_isLetter v2 mm).bind (fun x3 => if x3 = 0 then (some (((-1), mm))) else ((fX9_settle mm).bind (fun x4 => (fX9_runSend v1 v2 x4).bind (fun x5 => some (((gi x5 6 0 10), x5)))))))))
theorem wX9_origins {E : zE} {d : Nat} (hd : 45 ≤ d) {Q : Option zV → zM → Prop} {v1 : Int32} {v2 : Int32} {mm : zM} {o : (Int32 × zM)} (h : fX9_origins v1 v2 mm = some o) (hQ : ∀ r, o = r → Q (some (zI r.1)) r.2) : V E RX9 cX9_origins 3 (some .int) d Q 0 [some (zK 9 0), some (zI v1), some (zI v2)] [] mm := by
  unfold fX9_origins at h
  refine V_aload_n 1 rfl 0 dX9_origins_0 rfl rfl ?_
  obtain ⟨j1, hj, h⟩ := zbd h
  refine V_getm 4 rfl 8 dX9_origins_1 fl_X9_16 rfl rfl hj ?_
  refine V_iload_n 5 rfl 1 dX9_origins_4 rfl rfl ?_
  obtain ⟨x2, h1, h⟩ := zbd h
  refine V_cV 8 rfl 1 [zI v1] [] dX9_origins_5 cv_X9_94 (ctX8_isType (Nat.le_refl 1) h1) (Nat.le_trans (by decide) hd) rfl rfl (Nat.le_of_ble_eq_true rfl) zoki rfl ?_
  refine V_if_eq 11 18 rfl dX9_origins_8 (by decide) (fun c => ?_) (fun c => ?_)
  · have h := zpos c h
    refine V_iconst 19 rfl (v := (-1)) dX9_origins_18 (by decide) ?_
    exact V_iret dX9_origins_19 rfl (hQ (((-1), mm)) (zinj h))
  · have h := zneg c h
    refine V_iload_n 12 rfl 2 dX9_origins_11 rfl rfl ?_
    obtain ⟨x3, h1, h⟩ := zbd h
    refine V_cS 15 rfl 0 [zI v2] [] dX9_origins_12 cs_X9_130 (ctX9_isLetter (Nat.le_refl 0) h1) (Nat.le_trans (by decide) hd) rfl rfl (Nat.le_of_ble_eq_true rfl) zoki rfl ?_
    refine V_if_ne 18 20 rfl dX9_origins_15 (by decide) (fun c => ?_) (fun c => ?_)
    · have h := zneg c h
      refine V_aload_n 21 rfl 0 dX9_origins_20 rfl rfl ?_
      obtain ⟨x4, h1, h⟩ := zbd h
      refine V_cV 24 rfl 4 [] [] dX9_origins_21 cv_X9_201 (ctX9_settle (Nat.le_refl 4) h1) (Nat.le_trans (by decide) hd) rfl rfl (Nat.le_of_ble_eq_true rfl) zokn rfl ?_
      refine V_aload_n 25 rfl 0 dX9_origins_24 rfl rfl ?_
      refine V_iload_n 26 rfl 1 dX9_origins_25 rfl rfl ?_
      refine V_iload_n 27 rfl 2 dX9_origins_26 rfl rfl ?_
      obtain ⟨x5, h1, h⟩ := zbd h
      refine V_cV 30 rfl 44 [zI v1, zI v2] [] dX9_origins_27 cv_X9_271 (ctX9_runSend (Nat.le_refl 44) h1) (Nat.le_trans (by decide) hd) rfl rfl (Nat.le_of_ble_eq_true rfl) zokn rfl ?_
      refine V_aload_n 31 rfl 0 dX9_origins_30 rfl rfl ?_
      refine V_getr 34 rfl 6 0 dX9_origins_31 fl_X9_65 rfl rfl rfl ?_
      refine V_geti 37 rfl dX9_origins_34 fl_X9_302 rfl ?_
      exact V_iret dX9_origins_37 rfl (hQ (((gi x5 6 0 10), x5)) (zinj h))
    · have h := zpos c h
      refine V_iconst 19 rfl (v := (-1)) dX9_origins_18 (by decide) ?_
      exact V_iret dX9_origins_19 rfl (hQ (((-1), mm)) (zinj h))
theorem ctX9_origins {E : zE} {d : Nat} (hd : 45 ≤ d) {v1 : Int32} {v2 : Int32} {mm : zM} {o : (Int32 × zM)} (h : fX9_origins v1 v2 mm = some o) : zOC E yX9_origins cX9_origins 3 (some .int) d [zK 9 0, zI v1, zI v2] mm (some (zI o.1)) o.2 :=
  zCT_of (by decide) (Nat.le_of_ble_eq_true rfl) (zk_k (zk_i (zk_i zk_0))) rfl (wX9_origins hd h (fun r e => ⟨by rw [e], by rw [e]⟩))
def fX9_quotientBits_L19 (v0 : Int32) (mm : zM) (s : (Int64 × Int32)) : Option ((Int64 × Int32) ⊕ ((Int64 × Int32) ⊕ Empty)) :=
  if 31 ≤ s.2 then (some (.inr (.inl (s.1, s.2)))) else (if 0 < (lg_cmp ((s.1 * 2)) ((v0 : Int32).toInt64)) then (some (.inr (.inl (s.1, s.2)))) else (some (.inl ((s.1 * 2), (s.2 + 1)))))
def fX9_quotientBits_L61 (v2 : Int64) (v4 : Int32) (mm : zM) (s : (Int64 × Int64 × Int32)) : Option ((Int64 × Int64 × Int32) ⊕ ((Int64 × Int64) ⊕ Empty)) :=
  if 52 ≤ s.2.2 then (some (.inr (.inl (s.1, s.2.1)))) else (if (lg_cmp ((s.1 * 2)) v2) < 0 then (some (.inl ((s.1 * 2), (s.2.1 * 2), (s.2.2 + 1)))) else (some (.inl ((((s.1 * 2)) - v2), (((s.2.1 * 2)) + 1), (s.2.2 + 1)))))
def fX9_quotientBits (v0 : Int32) (v1 : Int32) (mm : zM) : Option Int64 :=
  if v1 ≤ 0 then (some 9221120237041090560) else (if v1 ≤ v0 then ((zloop (fX9_quotientBits_L19 v0 mm) zF ((v1 : Int32).toInt64, 0)).bind (fun o6 => zcase o6 (fun y1 => (zloop (fX9_quotientBits_L61 y1.1 y1.2 mm) zF ((((v0 : Int32).toInt64) - y1.1), 0, 0)).bind (fun o5 => zcase o5 (fun y3 => if (lg_cmp ((y3.1 * 2)) y1.1) ≤ 0 then (some ((((((1023 + ((y1.2 : Int32).toInt64))) <<< ((52 : Int32).toInt64 &&& 63))) + y3.2))) else (some ((((((1023 + ((y1.2 : Int32).toInt64))) <<< ((52 : Int32).toInt64 &&& 63))) + ((y3.2 + 1)))))) (fun r4 => r4.elim))) (fun r2 => r2.elim))) else (some 9221120237041090560))
theorem wX9_quotientBits_L19 {E : zE} {d : Nat} (hd : 0 ≤ d) {Q : Option zV → zM → Prop} {v0 : Int32} {mm : zM} {n : Nat} {s : (Int64 × Int32)} {o : (Int64 × Int32) ⊕ Empty} (h : zloop (fX9_quotientBits_L19 v0 mm) n s = some o) (he : ∀ y : (Int64 × Int32), o = .inl y → V E RX9 cX9_quotientBits 10 (some .long) d Q 49 [some (zI v0), none, some (zJ y.1), none, some (zI y.2), none, none, none, none, none] [] mm) : V E RX9 cX9_quotientBits 10 (some .long) d Q 19 [some (zI v0), none, some (zJ s.1), none, some (zI s.2), none, none, none, none, none] [] mm := by
  induction n generalizing s with
  | zero => exact (zloop_0 h).elim
  | succ n ih =>
    obtain ⟨o1, h1, hc1, he1⟩ := zloop_s h
    have kc : ∀ s' : (Int64 × Int32), o1 = .inl s' → V E RX9 cX9_quotientBits 10 (some .long) d Q 19 [some (zI v0), none, some (zJ s'.1), none, some (zI s'.2), none, none, none, none, none] [] mm := fun s' e => ih (hc1 s' e)
    have ke : ∀ y : (Int64 × Int32), o1 = .inr (.inl y) → V E RX9 cX9_quotientBits 10 (some .long) d Q 49 [some (zI v0), none, some (zJ y.1), none, some (zI y.2), none, none, none, none, none] [] mm := fun y e => he y (he1 _ e)
    clear h hc1 he1 ih
    have h := h1
    clear h1
    unfold fX9_quotientBits_L19 at h
    refine V_iload 21 rfl dX9_quotientBits_19 rfl ?_
    refine V_bipush 23 rfl (v := 31) dX9_quotientBits_21 (by decide) ?_
    refine V_icmp_ge 26 49 rfl dX9_quotientBits_23 (by decide) (fun c => ?_) (fun c => ?_)
    · have h := zpos c h
      exact ke (s.1, s.2) (zinj h)
    · have h := zneg c h
      refine V_lload_n 27 rfl 2 dX9_quotientBits_26 rfl rfl ?_
      refine V_ldc2 30 rfl (v := 2) dX9_quotientBits_27 tb_1053 ?_
      refine V_lmul 31 rfl dX9_quotientBits_30 ?_
      refine V_iload_n 32 rfl 0 dX9_quotientBits_31 rfl rfl ?_
      refine V_i2l 33 rfl dX9_quotientBits_32 ?_
      refine V_lcmp 34 rfl dX9_quotientBits_33 ?_
      refine V_if_gt 37 49 rfl dX9_quotientBits_34 (by decide) (fun c => ?_) (fun c => ?_)
      · have h := zpos c h
        exact ke (s.1, s.2) (zinj h)
      · have h := zneg c h
        refine V_lload_n 38 rfl 2 dX9_quotientBits_37 rfl rfl ?_
        refine V_ldc2 41 rfl (v := 2) dX9_quotientBits_38 tb_1053 ?_
        refine V_lmul 42 rfl dX9_quotientBits_41 ?_
        refine V_lstore_n 43 rfl 2 (L' := [some (zI v0), none, some (zJ (s.1 * 2)), none, some (zI s.2), none, none, none, none, none]) dX9_quotientBits_42 rfl (by decide) rfl ?_
        refine V_iinc 46 rfl (s.2 + 1) (L' := [some (zI v0), none, some (zJ (s.1 * 2)), none, some (zI (s.2 + 1)), none, none, none, none, none]) dX9_quotientBits_43 rfl rfl (by decide) rfl ?_
        refine V_goto 19 dX9_quotientBits_46 (by decide) ?_
        exact kc ((s.1 * 2), (s.2 + 1)) (zinj h)
theorem wX9_quotientBits_L61 {E : zE} {d : Nat} (hd : 0 ≤ d) {Q : Option zV → zM → Prop} {v2 : Int64} {v4 : Int32} {mm : zM} {n : Nat} {s : (Int64 × Int64 × Int32)} {o : (Int64 × Int64) ⊕ Empty} (h : zloop (fX9_quotientBits_L61 v2 v4 mm) n s = some o) (he : ∀ y : (Int64 × Int64), o = .inl y → V E RX9 cX9_quotientBits 10 (some .long) d Q 109 [none, none, some (zJ v2), none, some (zI v4), some (zJ y.1), none, some (zJ y.2), none, none] [] mm) : V E RX9 cX9_quotientBits 10 (some .long) d Q 61 [none, none, some (zJ v2), none, some (zI v4), some (zJ s.1), none, some (zJ s.2.1), none, some (zI s.2.2)] [] mm := by
  induction n generalizing s with
  | zero => exact (zloop_0 h).elim
  | succ n ih =>
    obtain ⟨o1, h1, hc1, he1⟩ := zloop_s h
    have kc : ∀ s' : (Int64 × Int64 × Int32), o1 = .inl s' → V E RX9 cX9_quotientBits 10 (some .long) d Q 61 [none, none, some (zJ v2), none, some (zI v4), some (zJ s'.1), none, some (zJ s'.2.1), none, some (zI s'.2.2)] [] mm := fun s' e => ih (hc1 s' e)
    have ke : ∀ y : (Int64 × Int64), o1 = .inr (.inl y) → V E RX9 cX9_quotientBits 10 (some .long) d Q 109 [none, none, some (zJ v2), none, some (zI v4), some (zJ y.1), none, some (zJ y.2), none, none] [] mm := fun y e => he y (he1 _ e)
    clear h hc1 he1 ih
    have h := h1
    clear h1
    unfold fX9_quotientBits_L61 at h
    refine V_iload 63 rfl dX9_quotientBits_61 rfl ?_
    refine V_bipush 65 rfl (v := 52) dX9_quotientBits_63 (by decide) ?_
    refine V_icmp_ge 68 109 rfl dX9_quotientBits_65 (by decide) (fun c => ?_) (fun c => ?_)
    · have h := zpos c h
      exact V_w (zsub_s (zsub_s (zsub_s (zsub_s (zsub_s (zsub_s (zsub_s (zsub_s (zsub_s (zsub_n zsub_0)))))))))) (ke (s.1, s.2.1) (zinj h))
    · have h := zneg c h
      refine V_lload 70 rfl dX9_quotientBits_68 rfl ?_
      refine V_ldc2 73 rfl (v := 2) dX9_quotientBits_70 tb_1053 ?_
      refine V_lmul 74 rfl dX9_quotientBits_73 ?_
      refine V_lstore 76 rfl (L' := [none, none, some (zJ v2), none, some (zI v4), some (zJ (s.1 * 2)), none, some (zJ s.2.1), none, some (zI s.2.2)]) dX9_quotientBits_74 (by decide) rfl ?_
      refine V_lload 78 rfl dX9_quotientBits_76 rfl ?_
      refine V_ldc2 81 rfl (v := 2) dX9_quotientBits_78 tb_1053 ?_
      refine V_lmul 82 rfl dX9_quotientBits_81 ?_
      refine V_lstore 84 rfl (L' := [none, none, some (zJ v2), none, some (zI v4), some (zJ (s.1 * 2)), none, some (zJ (s.2.1 * 2)), none, some (zI s.2.2)]) dX9_quotientBits_82 (by decide) rfl ?_
      refine V_lload 86 rfl dX9_quotientBits_84 rfl ?_
      refine V_lload_n 87 rfl 2 dX9_quotientBits_86 rfl rfl ?_
      refine V_lcmp 88 rfl dX9_quotientBits_87 ?_
      refine V_if_lt 91 103 rfl dX9_quotientBits_88 (by decide) (fun c => ?_) (fun c => ?_)
      · have h := zpos c h
        refine V_iinc 106 rfl (s.2.2 + 1) (L' := [none, none, some (zJ v2), none, some (zI v4), some (zJ (s.1 * 2)), none, some (zJ (s.2.1 * 2)), none, some (zI (s.2.2 + 1))]) dX9_quotientBits_103 rfl rfl (by decide) rfl ?_
        refine V_goto 61 dX9_quotientBits_106 (by decide) ?_
        exact kc ((s.1 * 2), (s.2.1 * 2), (s.2.2 + 1)) (zinj h)
      · have h := zneg c h
        refine V_lload 93 rfl dX9_quotientBits_91 rfl ?_
        refine V_lload_n 94 rfl 2 dX9_quotientBits_93 rfl rfl ?_
        refine V_lsub 95 rfl dX9_quotientBits_94 ?_
        refine V_lstore 97 rfl (L' := [none, none, some (zJ v2), none, some (zI v4), some (zJ (((s.1 * 2)) - v2)), none, some (zJ (s.2.1 * 2)), none, some (zI s.2.2)]) dX9_quotientBits_95 (by decide) rfl ?_
        refine V_lload 99 rfl dX9_quotientBits_97 rfl ?_
        refine V_lconst 100 rfl (v := 1) dX9_quotientBits_99 (by decide) ?_
        refine V_ladd 101 rfl dX9_quotientBits_100 ?_
        refine V_lstore 103 rfl (L' := [none, none, some (zJ v2), none, some (zI v4), some (zJ (((s.1 * 2)) - v2)), none, some (zJ (((s.2.1 * 2)) + 1)), none, some (zI s.2.2)]) dX9_quotientBits_101 (by decide) rfl ?_
        refine V_iinc 106 rfl (s.2.2 + 1) (L' := [none, none, some (zJ v2), none, some (zI v4), some (zJ (((s.1 * 2)) - v2)), none, some (zJ (((s.2.1 * 2)) + 1)), none, some (zI (s.2.2 + 1))]) dX9_quotientBits_103 rfl rfl (by decide) rfl ?_
        refine V_goto 61 dX9_quotientBits_106 (by decide) ?_
        exact kc ((((s.1 * 2)) - v2), (((s.2.1 * 2)) + 1), (s.2.2 + 1)) (zinj h)
theorem wX9_quotientBits {E : zE} {d : Nat} (hd : 0 ≤ d) {Q : Option zV → zM → Prop} {v0 : Int32} {v1 : Int32} {mm : zM} {o : Int64} (h : fX9_quotientBits v0 v1 mm = some o) (hQ : ∀ r, o = r → Q (some (zJ r)) mm) : V E RX9 cX9_quotientBits 10 (some .long) d Q 0 [some (zI v0), some (zI v1), none, none, none, none, none, none, none, none] [] mm := by
  unfold fX9_quotientBits at h
  refine V_iload_n 1 rfl 1 dX9_quotientBits_0 rfl rfl ?_
  refine V_if_le 4 9 rfl dX9_quotientBits_1 (by decide) (fun c => ?_) (fun c => ?_)
  · have h := zpos c h
    refine V_ldc2 12 rfl (v := 9221120237041090560) dX9_quotientBits_9 tb_1049 ?_
    exact V_lret dX9_quotientBits_12 rfl (hQ 9221120237041090560 (zinj h))
  · have h := zneg c h
    refine V_iload_n 5 rfl 0 dX9_quotientBits_4 rfl rfl ?_
    refine V_iload_n 6 rfl 1 dX9_quotientBits_5 rfl rfl ?_
    refine V_icmp_ge 9 13 rfl dX9_quotientBits_6 (by decide) (fun c => ?_) (fun c => ?_)
    · have h := zpos c h
      refine V_iload_n 14 rfl 1 dX9_quotientBits_13 rfl rfl ?_
      refine V_i2l 15 rfl dX9_quotientBits_14 ?_
      refine V_lstore_n 16 rfl 2 (L' := [some (zI v0), some (zI v1), some (zJ (v1 : Int32).toInt64), none, none, none, none, none, none, none]) dX9_quotientBits_15 rfl (by decide) rfl ?_
      refine V_iconst 17 rfl (v := 0) dX9_quotientBits_16 (by decide) ?_
      refine V_istore 19 rfl (L' := [some (zI v0), some (zI v1), some (zJ (v1 : Int32).toInt64), none, some (zI 0), none, none, none, none, none]) dX9_quotientBits_17 (by decide) rfl ?_
      obtain ⟨o6, h1, h⟩ := zbd h
      refine V_w (zsub_s (zsub_n (zsub_s (zsub_s (zsub_s (zsub_s (zsub_s (zsub_s (zsub_s (zsub_s zsub_0)))))))))) (wX9_quotientBits_L19 hd h1 (fun y1 e => ?_))
      have h := zcl_ e h
      refine V_iload_n 50 rfl 0 dX9_quotientBits_49 rfl rfl ?_
      refine V_i2l 51 rfl dX9_quotientBits_50 ?_
      refine V_lload_n 52 rfl 2 dX9_quotientBits_51 rfl rfl ?_
      refine V_lsub 53 rfl dX9_quotientBits_52 ?_
      refine V_lstore 55 rfl (L' := [some (zI v0), none, some (zJ y1.1), none, some (zI y1.2), some (zJ (((v0 : Int32).toInt64) - y1.1)), none, none, none, none]) dX9_quotientBits_53 (by decide) rfl ?_
      refine V_lconst 56 rfl (v := 0) dX9_quotientBits_55 (by decide) ?_
      refine V_lstore 58 rfl (L' := [some (zI v0), none, some (zJ y1.1), none, some (zI y1.2), some (zJ (((v0 : Int32).toInt64) - y1.1)), none, some (zJ 0), none, none]) dX9_quotientBits_56 (by decide) rfl ?_
      refine V_iconst 59 rfl (v := 0) dX9_quotientBits_58 (by decide) ?_
      refine V_istore 61 rfl (L' := [some (zI v0), none, some (zJ y1.1), none, some (zI y1.2), some (zJ (((v0 : Int32).toInt64) - y1.1)), none, some (zJ 0), none, some (zI 0)]) dX9_quotientBits_59 (by decide) rfl ?_
      obtain ⟨o5, h1, h⟩ := zbd h
      refine V_w (zsub_n (zsub_s (zsub_s (zsub_s (zsub_s (zsub_s (zsub_s (zsub_s (zsub_s (zsub_s zsub_0)))))))))) (wX9_quotientBits_L61 hd h1 (fun y3 e => ?_))
      have h := zcl_ e h
      refine V_lload 111 rfl dX9_quotientBits_109 rfl ?_
      refine V_ldc2 114 rfl (v := 2) dX9_quotientBits_111 tb_1053 ?_
      refine V_lmul 115 rfl dX9_quotientBits_114 ?_
      refine V_lload_n 116 rfl 2 dX9_quotientBits_115 rfl rfl ?_
      refine V_lcmp 117 rfl dX9_quotientBits_116 ?_
      refine V_if_le 120 126 rfl dX9_quotientBits_117 (by decide) (fun c => ?_) (fun c => ?_)
      · have h := zpos c h
        refine V_ldc2 129 rfl (v := 1023) dX9_quotientBits_126 tb_1054 ?_
        refine V_iload 131 rfl dX9_quotientBits_129 rfl ?_
        refine V_i2l 132 rfl dX9_quotientBits_131 ?_
        refine V_ladd 133 rfl dX9_quotientBits_132 ?_
        refine V_bipush 135 rfl (v := 52) dX9_quotientBits_133 (by decide) ?_
        refine V_lshl 136 rfl dX9_quotientBits_135 ?_
        refine V_lload 138 rfl dX9_quotientBits_136 rfl ?_
        refine V_ladd 139 rfl dX9_quotientBits_138 ?_
        exact V_lret dX9_quotientBits_139 rfl (hQ ((((((1023 + ((y1.2 : Int32).toInt64))) <<< ((52 : Int32).toInt64 &&& 63))) + y3.2)) (zinj h))
      · have h := zneg c h
        refine V_lload 122 rfl dX9_quotientBits_120 rfl ?_
        refine V_lconst 123 rfl (v := 1) dX9_quotientBits_122 (by decide) ?_
        refine V_ladd 124 rfl dX9_quotientBits_123 ?_
        refine V_lstore 126 rfl (L' := [none, none, some (zJ y1.1), none, some (zI y1.2), some (zJ y3.1), none, some (zJ (y3.2 + 1)), none, none]) dX9_quotientBits_124 (by decide) rfl ?_
        refine V_ldc2 129 rfl (v := 1023) dX9_quotientBits_126 tb_1054 ?_
        refine V_iload 131 rfl dX9_quotientBits_129 rfl ?_
        refine V_i2l 132 rfl dX9_quotientBits_131 ?_
        refine V_ladd 133 rfl dX9_quotientBits_132 ?_
        refine V_bipush 135 rfl (v := 52) dX9_quotientBits_133 (by decide) ?_
        refine V_lshl 136 rfl dX9_quotientBits_135 ?_
        refine V_lload 138 rfl dX9_quotientBits_136 rfl ?_
        refine V_ladd 139 rfl dX9_quotientBits_138 ?_
        exact V_lret dX9_quotientBits_139 rfl (hQ ((((((1023 + ((y1.2 : Int32).toInt64))) <<< ((52 : Int32).toInt64 &&& 63))) + ((y3.2 + 1)))) (zinj h))
    · have h := zneg c h
      refine V_ldc2 12 rfl (v := 9221120237041090560) dX9_quotientBits_9 tb_1049 ?_
      exact V_lret dX9_quotientBits_12 rfl (hQ 9221120237041090560 (zinj h))
theorem ctX9_quotientBits {E : zE} {d : Nat} (hd : 0 ≤ d) {v0 : Int32} {v1 : Int32} {mm : zM} {o : Int64} (h : fX9_quotientBits v0 v1 mm = some o) : zOC E yX9_quotientBits cX9_quotientBits 10 (some .long) d [zI v0, zI v1] mm (some (zJ o)) mm :=
  zCT_of (by decide) (Nat.le_of_ble_eq_true rfl) (zk_i (zk_i zk_0)) rfl (wX9_quotientBits hd h (fun r e => ⟨by rw [e], rfl⟩))
def fX9_mean_L26 (v1 : Int32) (s : (Int32 × Int32 × Int32 × zM)) : Option ((Int32 × Int32 × Int32 × zM) ⊕ ((Int32 × Int32 × zM) ⊕ Empty)) :=
  if 26 ≤ s.2.2.1 then (some (.inr (.inl (s.1, s.2.1, s.2.2.2)))) else ((fX9_runSend v1 s.2.2.1 s.2.2.2).bind (fun x4 => if (gi x4 6 0 4) = 0 then (some (.inl ((s.1 + ((gi x4 6 0 6))), (s.2.1 + 1), (s.2.2.1 + 1), x4))) else (some (.inl (s.1, s.2.1, (s.2.2.1 + 1), x4)))))
def fX9_mean (v1 : Int32) (mm : zM) : Option (Int64 × zM) :=
  (gr mm 9 2).bind (fun j1 => (fX8_isType j1 v1 mm).bind (fun x2 => if x2 = 0 then (some ((9221120237041090560, mm))) else ((fX9_settle mm).bind (fun x3 => (zloop (fX9_mean_L26 v1) zF (0, 0, 0, x3)).bind (fun o8 => zcase o8 (fun y5 => (fX9_quotientBits y5.1 y5.2.1 y5.2.2).bind (fun x7 => some ((x7, y5.2.2)))) (fun r6 => r6.elim))))))
theorem wX9_mean_L26 {E : zE} {d : Nat} (hd : 45 ≤ d) {Q : Option zV → zM → Prop} {v1 : Int32} {n : Nat} {s : (Int32 × Int32 × Int32 × zM)} {o : (Int32 × Int32 × zM) ⊕ Empty} (h : zloop (fX9_mean_L26 v1) n s = some o) (he : ∀ y : (Int32 × Int32 × zM), o = .inl y → V E RX9 cX9_mean 5 (some .long) d Q 69 [none, none, some (zI y.1), some (zI y.2.1), none] [] y.2.2) : V E RX9 cX9_mean 5 (some .long) d Q 26 [some (zK 9 0), some (zI v1), some (zI s.1), some (zI s.2.1), some (zI s.2.2.1)] [] s.2.2.2 := by
  induction n generalizing s with
  | zero => exact (zloop_0 h).elim
  | succ n ih =>
    obtain ⟨o1, h1, hc1, he1⟩ := zloop_s h
    have kc : ∀ s' : (Int32 × Int32 × Int32 × zM), o1 = .inl s' → V E RX9 cX9_mean 5 (some .long) d Q 26 [some (zK 9 0), some (zI v1), some (zI s'.1), some (zI s'.2.1), some (zI s'.2.2.1)] [] s'.2.2.2 := fun s' e => ih (hc1 s' e)
    have ke : ∀ y : (Int32 × Int32 × zM), o1 = .inr (.inl y) → V E RX9 cX9_mean 5 (some .long) d Q 69 [none, none, some (zI y.1), some (zI y.2.1), none] [] y.2.2 := fun y e => he y (he1 _ e)
    clear h hc1 he1 ih
    have h := h1
    clear h1
    unfold fX9_mean_L26 at h
    refine V_iload 28 rfl dX9_mean_26 rfl ?_
    refine V_bipush 30 rfl (v := 26) dX9_mean_28 (by decide) ?_
    refine V_icmp_ge 33 69 rfl dX9_mean_30 (by decide) (fun c => ?_) (fun c => ?_)
    · have h := zpos c h
      exact V_w (zsub_n (zsub_n (zsub_s (zsub_s (zsub_n zsub_0))))) (ke (s.1, s.2.1, s.2.2.2) (zinj h))
    · have h := zneg c h
      refine V_aload_n 34 rfl 0 dX9_mean_33 rfl rfl ?_
      refine V_iload_n 35 rfl 1 dX9_mean_34 rfl rfl ?_
      refine V_iload 37 rfl dX9_mean_35 rfl ?_
      obtain ⟨x4, h1, h⟩ := zbd h
      refine V_cV 40 rfl 44 [zI v1, zI s.2.2.1] [] dX9_mean_37 cv_X9_271 (ctX9_runSend (Nat.le_refl 44) h1) (Nat.le_trans (by decide) hd) rfl rfl (Nat.le_of_ble_eq_true rfl) zokn rfl ?_
      refine V_aload_n 41 rfl 0 dX9_mean_40 rfl rfl ?_
      refine V_getr 44 rfl 6 0 dX9_mean_41 fl_X9_65 rfl rfl rfl ?_
      refine V_geti 47 rfl dX9_mean_44 fl_X9_274 rfl ?_
      refine V_if_ne 50 63 rfl dX9_mean_47 (by decide) (fun c => ?_) (fun c => ?_)
      · have h := zneg c h
        refine V_iinc 66 rfl (s.2.2.1 + 1) (L' := [some (zK 9 0), some (zI v1), some (zI s.1), some (zI s.2.1), some (zI (s.2.2.1 + 1))]) dX9_mean_63 rfl rfl (by decide) rfl ?_
        refine V_goto 26 dX9_mean_66 (by decide) ?_
        exact kc (s.1, s.2.1, (s.2.2.1 + 1), x4) (zinj h)
      · have h := zpos c h
        refine V_iload_n 51 rfl 2 dX9_mean_50 rfl rfl ?_
        refine V_aload_n 52 rfl 0 dX9_mean_51 rfl rfl ?_
        refine V_getr 55 rfl 6 0 dX9_mean_52 fl_X9_65 rfl rfl rfl ?_
        refine V_geti 58 rfl dX9_mean_55 fl_X9_280 rfl ?_
        refine V_iadd 59 rfl dX9_mean_58 ?_
        refine V_istore_n 60 rfl 2 (L' := [some (zK 9 0), some (zI v1), some (zI (s.1 + ((gi x4 6 0 6)))), some (zI s.2.1), some (zI s.2.2.1)]) dX9_mean_59 rfl (by decide) rfl ?_
        refine V_iinc 63 rfl (s.2.1 + 1) (L' := [some (zK 9 0), some (zI v1), some (zI (s.1 + ((gi x4 6 0 6)))), some (zI (s.2.1 + 1)), some (zI s.2.2.1)]) dX9_mean_60 rfl rfl (by decide) rfl ?_
        refine V_iinc 66 rfl (s.2.2.1 + 1) (L' := [some (zK 9 0), some (zI v1), some (zI (s.1 + ((gi x4 6 0 6)))), some (zI (s.2.1 + 1)), some (zI (s.2.2.1 + 1))]) dX9_mean_63 rfl rfl (by decide) rfl ?_
        refine V_goto 26 dX9_mean_66 (by decide) ?_
        exact kc ((s.1 + ((gi x4 6 0 6))), (s.2.1 + 1), (s.2.2.1 + 1), x4) (zinj h)
theorem wX9_mean {E : zE} {d : Nat} (hd : 45 ≤ d) {Q : Option zV → zM → Prop} {v1 : Int32} {mm : zM} {o : (Int64 × zM)} (h : fX9_mean v1 mm = some o) (hQ : ∀ r, o = r → Q (some (zJ r.1)) r.2) : V E RX9 cX9_mean 5 (some .long) d Q 0 [some (zK 9 0), some (zI v1), none, none, none] [] mm := by
  unfold fX9_mean at h
  refine V_aload_n 1 rfl 0 dX9_mean_0 rfl rfl ?_
  obtain ⟨j1, hj, h⟩ := zbd h
  refine V_getm 4 rfl 8 dX9_mean_1 fl_X9_16 rfl rfl hj ?_
  refine V_iload_n 5 rfl 1 dX9_mean_4 rfl rfl ?_
  obtain ⟨x2, h1, h⟩ := zbd h
  refine V_cV 8 rfl 1 [zI v1] [] dX9_mean_5 cv_X9_94 (ctX8_isType (Nat.le_refl 1) h1) (Nat.le_trans (by decide) hd) rfl rfl (Nat.le_of_ble_eq_true rfl) zoki rfl ?_
  refine V_if_ne 11 15 rfl dX9_mean_8 (by decide) (fun c => ?_) (fun c => ?_)
  · have h := zneg c h
    refine V_aload_n 16 rfl 0 dX9_mean_15 rfl rfl ?_
    obtain ⟨x3, h1, h⟩ := zbd h
    refine V_cV 19 rfl 4 [] [] dX9_mean_16 cv_X9_201 (ctX9_settle (Nat.le_refl 4) h1) (Nat.le_trans (by decide) hd) rfl rfl (Nat.le_of_ble_eq_true rfl) zokn rfl ?_
    refine V_iconst 20 rfl (v := 0) dX9_mean_19 (by decide) ?_
    refine V_istore_n 21 rfl 2 (L' := [some (zK 9 0), some (zI v1), some (zI 0), none, none]) dX9_mean_20 rfl (by decide) rfl ?_
    refine V_iconst 22 rfl (v := 0) dX9_mean_21 (by decide) ?_
    refine V_istore_n 23 rfl 3 (L' := [some (zK 9 0), some (zI v1), some (zI 0), some (zI 0), none]) dX9_mean_22 rfl (by decide) rfl ?_
    refine V_iconst 24 rfl (v := 0) dX9_mean_23 (by decide) ?_
    refine V_istore 26 rfl (L' := [some (zK 9 0), some (zI v1), some (zI 0), some (zI 0), some (zI 0)]) dX9_mean_24 (by decide) rfl ?_
    obtain ⟨o8, h1, h⟩ := zbd h
    refine wX9_mean_L26 hd h1 (fun y5 e => ?_)
    have h := zcl_ e h
    refine V_iload_n 70 rfl 2 dX9_mean_69 rfl rfl ?_
    refine V_iload_n 71 rfl 3 dX9_mean_70 rfl rfl ?_
    obtain ⟨x7, h1, h⟩ := zbd h
    refine V_cS 74 rfl 0 [zI y5.1, zI y5.2.1] [] dX9_mean_71 cs_X9_307 (ctX9_quotientBits (Nat.le_refl 0) h1) (Nat.le_trans (by decide) hd) rfl rfl (Nat.le_of_ble_eq_true rfl) zokj rfl ?_
    exact V_lret dX9_mean_74 rfl (hQ ((x7, y5.2.2)) (zinj h))
  · have h := zpos c h
    refine V_ldc2 14 rfl (v := 9221120237041090560) dX9_mean_11 tb_1049 ?_
    exact V_lret dX9_mean_14 rfl (hQ ((9221120237041090560, mm)) (zinj h))
theorem ctX9_mean {E : zE} {d : Nat} (hd : 45 ≤ d) {v1 : Int32} {mm : zM} {o : (Int64 × zM)} (h : fX9_mean v1 mm = some o) : zOC E yX9_mean cX9_mean 5 (some .long) d [zK 9 0, zI v1] mm (some (zJ o.1)) o.2 :=
  zCT_of (by decide) (Nat.le_of_ble_eq_true rfl) (zk_k (zk_i zk_0)) rfl (wX9_mean hd h (fun r e => ⟨by rw [e], by rw [e]⟩))
def fX9_find (v1 : Int32) (mm : zM) : Option Int32 :=
  (gr mm 9 2).bind (fun j1 => (fX8_indexOf j1 v1 mm).bind (fun x2 => some x2))
theorem wX9_find {E : zE} {d : Nat} (hd : 1 ≤ d) {Q : Option zV → zM → Prop} {v1 : Int32} {mm : zM} {o : Int32} (h : fX9_find v1 mm = some o) (hQ : ∀ r, o = r → Q (some (zI r)) mm) : V E RX9 cX9_find 2 (some .int) d Q 0 [some (zK 9 0), some (zI v1)] [] mm := by
  unfold fX9_find at h
  refine V_aload_n 1 rfl 0 dX9_find_0 rfl rfl ?_
  obtain ⟨j1, hj, h⟩ := zbd h
  refine V_getm 4 rfl 8 dX9_find_1 fl_X9_16 rfl rfl hj ?_
  refine V_iload_n 5 rfl 1 dX9_find_4 rfl rfl ?_
  obtain ⟨x2, h1, h⟩ := zbd h
  refine V_cV 8 rfl 0 [zI v1] [] dX9_find_5 cv_X9_315 (ctX8_indexOf (Nat.le_refl 0) h1) (Nat.le_trans (by decide) hd) rfl rfl (Nat.le_of_ble_eq_true rfl) zoki rfl ?_
  exact V_iret dX9_find_8 rfl (hQ x2 (zinj h))
theorem ctX9_find {E : zE} {d : Nat} (hd : 1 ≤ d) {v1 : Int32} {mm : zM} {o : Int32} (h : fX9_find v1 mm = some o) : zOC E yX9_find cX9_find 2 (some .int) d [zK 9 0, zI v1] mm (some (zI o)) mm :=
  zCT_of (by decide) (Nat.le_of_ble_eq_true rfl) (zk_k (zk_i zk_0)) rfl (wX9_find hd h (fun r e => ⟨by rw [e], rfl⟩))
def fX9_bitsOfLowest_L6 (mm : zM) (s : (Int32 × Int32 × Int32)) : Option ((Int32 × Int32 × Int32) ⊕ ((Int32 × Int32) ⊕ Empty)) :=
  (gr mm 9 2).bind (fun j1 => if (gi mm 8 j1 1) ≤ s.2.2 then (some (.inr (.inl (s.1, s.2.1)))) else ((gr mm 9 2).bind (fun j2 => (fX8_isType j2 s.2.2 mm).bind (fun x3 => if x3 = 0 then (some (.inl (s.1, s.2.1, (s.2.2 + 1)))) else (zob (zin s.2.2 12) (some (.inl ((s.1 ||| ((1 <<< (s.2.2 &&& 31)))), (s.2.1 ||| ((((gi mm 22 0 (zn s.2.2))) &&& ((((1 <<< (s.2.2 &&& 31))) ^^^ ((-1))))))), (s.2.2 + 1)))))))))
def fX9_bitsOfLowest (mm : zM) : Option Int32 :=
  (zloop (fX9_bitsOfLowest_L6 mm) zF (0, 0, 0)).bind (fun o6 => zcase o6 (fun y4 => some ((y4.1 &&& ((y4.2 ^^^ ((-1))))))) (fun r5 => r5.elim))
theorem wX9_bitsOfLowest_L6 {E : zE} {d : Nat} (hd : 2 ≤ d) {Q : Option zV → zM → Prop} {mm : zM} {n : Nat} {s : (Int32 × Int32 × Int32)} {o : (Int32 × Int32) ⊕ Empty} (h : zloop (fX9_bitsOfLowest_L6 mm) n s = some o) (he : ∀ y : (Int32 × Int32), o = .inl y → V E RX9 cX9_bitsOfLowest 4 (some .int) d Q 58 [none, some (zI y.1), some (zI y.2), none] [] mm) : V E RX9 cX9_bitsOfLowest 4 (some .int) d Q 6 [some (zK 9 0), some (zI s.1), some (zI s.2.1), some (zI s.2.2)] [] mm := by
  induction n generalizing s with
  | zero => exact (zloop_0 h).elim
  | succ n ih =>
    obtain ⟨o1, h1, hc1, he1⟩ := zloop_s h
    have kc : ∀ s' : (Int32 × Int32 × Int32), o1 = .inl s' → V E RX9 cX9_bitsOfLowest 4 (some .int) d Q 6 [some (zK 9 0), some (zI s'.1), some (zI s'.2.1), some (zI s'.2.2)] [] mm := fun s' e => ih (hc1 s' e)
    have ke : ∀ y : (Int32 × Int32), o1 = .inr (.inl y) → V E RX9 cX9_bitsOfLowest 4 (some .int) d Q 58 [none, some (zI y.1), some (zI y.2), none] [] mm := fun y e => he y (he1 _ e)
    clear h hc1 he1 ih
    have h := h1
    clear h1
    unfold fX9_bitsOfLowest_L6 at h
    refine V_iload_n 7 rfl 3 dX9_bitsOfLowest_6 rfl rfl ?_
    refine V_aload_n 8 rfl 0 dX9_bitsOfLowest_7 rfl rfl ?_
    obtain ⟨j1, hj, h⟩ := zbd h
    refine V_getm 11 rfl 8 dX9_bitsOfLowest_8 fl_X9_16 rfl rfl hj ?_
    refine V_geti 14 rfl dX9_bitsOfLowest_11 fl_X9_84 rfl ?_
    refine V_icmp_ge 17 58 rfl dX9_bitsOfLowest_14 (by decide) (fun c => ?_) (fun c => ?_)
    · have h := zpos c h
      exact V_w (zsub_n (zsub_s (zsub_s (zsub_n zsub_0)))) (ke (s.1, s.2.1) (zinj h))
    · have h := zneg c h
      refine V_aload_n 18 rfl 0 dX9_bitsOfLowest_17 rfl rfl ?_
      obtain ⟨j2, hj, h⟩ := zbd h
      refine V_getm 21 rfl 8 dX9_bitsOfLowest_18 fl_X9_16 rfl rfl hj ?_
      refine V_iload_n 22 rfl 3 dX9_bitsOfLowest_21 rfl rfl ?_
      obtain ⟨x3, h1, h⟩ := zbd h
      refine V_cV 25 rfl 1 [zI s.2.2] [] dX9_bitsOfLowest_22 cv_X9_94 (ctX8_isType (Nat.le_refl 1) h1) (Nat.le_trans (by decide) hd) rfl rfl (Nat.le_of_ble_eq_true rfl) zoki rfl ?_
      refine V_if_eq 28 52 rfl dX9_bitsOfLowest_25 (by decide) (fun c => ?_) (fun c => ?_)
      · have h := zpos c h
        refine V_iinc 55 rfl (s.2.2 + 1) (L' := [some (zK 9 0), some (zI s.1), some (zI s.2.1), some (zI (s.2.2 + 1))]) dX9_bitsOfLowest_52 rfl rfl (by decide) rfl ?_
        refine V_goto 6 dX9_bitsOfLowest_55 (by decide) ?_
        exact kc (s.1, s.2.1, (s.2.2 + 1)) (zinj h)
      · have h := zneg c h
        refine V_iload_n 29 rfl 1 dX9_bitsOfLowest_28 rfl rfl ?_
        refine V_iconst 30 rfl (v := 1) dX9_bitsOfLowest_29 (by decide) ?_
        refine V_iload_n 31 rfl 3 dX9_bitsOfLowest_30 rfl rfl ?_
        refine V_ishl 32 rfl dX9_bitsOfLowest_31 ?_
        refine V_ior 33 rfl dX9_bitsOfLowest_32 ?_
        refine V_istore_n 34 rfl 1 (L' := [some (zK 9 0), some (zI (s.1 ||| ((1 <<< (s.2.2 &&& 31))))), some (zI s.2.1), some (zI s.2.2)]) dX9_bitsOfLowest_33 rfl (by decide) rfl ?_
        refine V_iload_n 35 rfl 2 dX9_bitsOfLowest_34 rfl rfl ?_
        refine V_aload_n 36 rfl 0 dX9_bitsOfLowest_35 rfl rfl ?_
        refine V_getr 39 rfl 2 0 dX9_bitsOfLowest_36 fl_X9_51 rfl rfl rfl ?_
        refine V_getr 42 rfl 22 0 dX9_bitsOfLowest_39 fl_X9_251 rfl rfl rfl ?_
        refine V_iload_n 43 rfl 3 dX9_bitsOfLowest_42 rfl rfl ?_
        obtain ⟨hi, h⟩ := zobd h
        refine V_iald 44 rfl dX9_bitsOfLowest_43 rfl hi ?_
        refine V_iconst 45 rfl (v := 1) dX9_bitsOfLowest_44 (by decide) ?_
        refine V_iload_n 46 rfl 3 dX9_bitsOfLowest_45 rfl rfl ?_
        refine V_ishl 47 rfl dX9_bitsOfLowest_46 ?_
        refine V_iconst 48 rfl (v := (-1)) dX9_bitsOfLowest_47 (by decide) ?_
        refine V_ixor 49 rfl dX9_bitsOfLowest_48 ?_
        refine V_iand 50 rfl dX9_bitsOfLowest_49 ?_
        refine V_ior 51 rfl dX9_bitsOfLowest_50 ?_
        refine V_istore_n 52 rfl 2 (L' := [some (zK 9 0), some (zI (s.1 ||| ((1 <<< (s.2.2 &&& 31))))), some (zI (s.2.1 ||| ((((gi mm 22 0 (zn s.2.2))) &&& ((((1 <<< (s.2.2 &&& 31))) ^^^ ((-1)))))))), some (zI s.2.2)]) dX9_bitsOfLowest_51 rfl (by decide) rfl ?_
        refine V_iinc 55 rfl (s.2.2 + 1) (L' := [some (zK 9 0), some (zI (s.1 ||| ((1 <<< (s.2.2 &&& 31))))), some (zI (s.2.1 ||| ((((gi mm 22 0 (zn s.2.2))) &&& ((((1 <<< (s.2.2 &&& 31))) ^^^ ((-1)))))))), some (zI (s.2.2 + 1))]) dX9_bitsOfLowest_52 rfl rfl (by decide) rfl ?_
        refine V_goto 6 dX9_bitsOfLowest_55 (by decide) ?_
        exact kc ((s.1 ||| ((1 <<< (s.2.2 &&& 31)))), (s.2.1 ||| ((((gi mm 22 0 (zn s.2.2))) &&& ((((1 <<< (s.2.2 &&& 31))) ^^^ ((-1))))))), (s.2.2 + 1)) (zinj h)
theorem wX9_bitsOfLowest {E : zE} {d : Nat} (hd : 2 ≤ d) {Q : Option zV → zM → Prop} {mm : zM} {o : Int32} (h : fX9_bitsOfLowest mm = some o) (hQ : ∀ r, o = r → Q (some (zI r)) mm) : V E RX9 cX9_bitsOfLowest 4 (some .int) d Q 0 [some (zK 9 0), none, none, none] [] mm := by
  unfold fX9_bitsOfLowest at h
  refine V_iconst 1 rfl (v := 0) dX9_bitsOfLowest_0 (by decide) ?_
  refine V_istore_n 2 rfl 1 (L' := [some (zK 9 0), some (zI 0), none, none]) dX9_bitsOfLowest_1 rfl (by decide) rfl ?_
  refine V_iconst 3 rfl (v := 0) dX9_bitsOfLowest_2 (by decide) ?_
  refine V_istore_n 4 rfl 2 (L' := [some (zK 9 0), some (zI 0), some (zI 0), none]) dX9_bitsOfLowest_3 rfl (by decide) rfl ?_
  refine V_iconst 5 rfl (v := 0) dX9_bitsOfLowest_4 (by decide) ?_
  refine V_istore_n 6 rfl 3 (L' := [some (zK 9 0), some (zI 0), some (zI 0), some (zI 0)]) dX9_bitsOfLowest_5 rfl (by decide) rfl ?_
  obtain ⟨o6, h1, h⟩ := zbd h
  refine wX9_bitsOfLowest_L6 hd h1 (fun y4 e => ?_)
  have h := zcl_ e h
  refine V_iload_n 59 rfl 1 dX9_bitsOfLowest_58 rfl rfl ?_
  refine V_iload_n 60 rfl 2 dX9_bitsOfLowest_59 rfl rfl ?_
  refine V_iconst 61 rfl (v := (-1)) dX9_bitsOfLowest_60 (by decide) ?_
  refine V_ixor 62 rfl dX9_bitsOfLowest_61 ?_
  refine V_iand 63 rfl dX9_bitsOfLowest_62 ?_
  exact V_iret dX9_bitsOfLowest_63 rfl (hQ ((y4.1 &&& ((y4.2 ^^^ ((-1)))))) (zinj h))
theorem ctX9_bitsOfLowest {E : zE} {d : Nat} (hd : 2 ≤ d) {mm : zM} {o : Int32} (h : fX9_bitsOfLowest mm = some o) : zOC E yX9_bitsOfLowest cX9_bitsOfLowest 4 (some .int) d [zK 9 0] mm (some (zI o)) mm :=
  zCT_of (by decide) (Nat.le_of_ble_eq_true rfl) (zk_k zk_0) rfl (wX9_bitsOfLowest hd h (fun r e => ⟨by rw [e], rfl⟩))
def fX9_conflictCount_L4 (mm : zM) (s : (Int32 × Int32)) : Option ((Int32 × Int32) ⊕ (Int32 ⊕ Empty)) :=
  (gr mm 9 2).bind (fun j1 => if (gi mm 8 j1 1) ≤ s.2 then (some (.inr (.inl s.1))) else ((fX0_bitsOf s.2 3 mm).bind (fun x2 => (fJ6_bitCount x2 mm).bind (fun x3 => some (.inl ((s.1 + x3), (s.2 + 1)))))))
def fX9_conflictCount (mm : zM) : Option Int32 :=
  (zloop (fX9_conflictCount_L4 mm) zF (0, 0)).bind (fun o6 => zcase o6 (fun y4 => some y4) (fun r5 => r5.elim))
theorem wX9_conflictCount_L4 {E : zE} {d : Nat} (hd : 2 ≤ d) {Q : Option zV → zM → Prop} {mm : zM} {n : Nat} {s : (Int32 × Int32)} {o : Int32 ⊕ Empty} (h : zloop (fX9_conflictCount_L4 mm) n s = some o) (he : ∀ y : Int32, o = .inl y → V E RX9 cX9_conflictCount 3 (some .int) d Q 36 [none, some (zI y), none] [] mm) : V E RX9 cX9_conflictCount 3 (some .int) d Q 4 [some (zK 9 0), some (zI s.1), some (zI s.2)] [] mm := by
  induction n generalizing s with
  | zero => exact (zloop_0 h).elim
  | succ n ih =>
    obtain ⟨o1, h1, hc1, he1⟩ := zloop_s h
    have kc : ∀ s' : (Int32 × Int32), o1 = .inl s' → V E RX9 cX9_conflictCount 3 (some .int) d Q 4 [some (zK 9 0), some (zI s'.1), some (zI s'.2)] [] mm := fun s' e => ih (hc1 s' e)
    have ke : ∀ y : Int32, o1 = .inr (.inl y) → V E RX9 cX9_conflictCount 3 (some .int) d Q 36 [none, some (zI y), none] [] mm := fun y e => he y (he1 _ e)
    clear h hc1 he1 ih
    have h := h1
    clear h1
    unfold fX9_conflictCount_L4 at h
    refine V_iload_n 5 rfl 2 dX9_conflictCount_4 rfl rfl ?_
    refine V_aload_n 6 rfl 0 dX9_conflictCount_5 rfl rfl ?_
    obtain ⟨j1, hj, h⟩ := zbd h
    refine V_getm 9 rfl 8 dX9_conflictCount_6 fl_X9_16 rfl rfl hj ?_
    refine V_geti 12 rfl dX9_conflictCount_9 fl_X9_84 rfl ?_
    refine V_icmp_ge 15 36 rfl dX9_conflictCount_12 (by decide) (fun c => ?_) (fun c => ?_)
    · have h := zpos c h
      exact V_w (zsub_n (zsub_s (zsub_n zsub_0))) (ke s.1 (zinj h))
    · have h := zneg c h
      refine V_iload_n 16 rfl 1 dX9_conflictCount_15 rfl rfl ?_
      refine V_aload_n 17 rfl 0 dX9_conflictCount_16 rfl rfl ?_
      refine V_getr 20 rfl 0 0 dX9_conflictCount_17 fl_X9_44 rfl rfl rfl ?_
      refine V_iload_n 21 rfl 2 dX9_conflictCount_20 rfl rfl ?_
      refine V_iconst 22 rfl (v := 3) dX9_conflictCount_21 (by decide) ?_
      obtain ⟨x2, h1, h⟩ := zbd h
      refine V_cV 25 rfl 1 [zI s.2, zI 3] [zI s.1] dX9_conflictCount_22 cv_X9_220 (ctX0_bitsOf (Nat.le_refl 1) h1) (Nat.le_trans (by decide) hd) rfl rfl (Nat.le_of_ble_eq_true rfl) zoki rfl ?_
      obtain ⟨x3, h1, h⟩ := zbd h
      refine V_cS 28 rfl 0 [zI x2] [zI s.1] dX9_conflictCount_25 cs_X9_341 (ctJ6_bitCount (Nat.le_refl 0) h1) (Nat.le_trans (by decide) hd) rfl rfl (Nat.le_of_ble_eq_true rfl) zoki rfl ?_
      refine V_iadd 29 rfl dX9_conflictCount_28 ?_
      refine V_istore_n 30 rfl 1 (L' := [some (zK 9 0), some (zI (s.1 + x3)), some (zI s.2)]) dX9_conflictCount_29 rfl (by decide) rfl ?_
      refine V_iinc 33 rfl (s.2 + 1) (L' := [some (zK 9 0), some (zI (s.1 + x3)), some (zI (s.2 + 1))]) dX9_conflictCount_30 rfl rfl (by decide) rfl ?_
      refine V_goto 4 dX9_conflictCount_33 (by decide) ?_
      exact kc ((s.1 + x3), (s.2 + 1)) (zinj h)
theorem wX9_conflictCount {E : zE} {d : Nat} (hd : 2 ≤ d) {Q : Option zV → zM → Prop} {mm : zM} {o : Int32} (h : fX9_conflictCount mm = some o) (hQ : ∀ r, o = r → Q (some (zI r)) mm) : V E RX9 cX9_conflictCount 3 (some .int) d Q 0 [some (zK 9 0), none, none] [] mm := by
  unfold fX9_conflictCount at h
  refine V_iconst 1 rfl (v := 0) dX9_conflictCount_0 (by decide) ?_
  refine V_istore_n 2 rfl 1 (L' := [some (zK 9 0), some (zI 0), none]) dX9_conflictCount_1 rfl (by decide) rfl ?_
  refine V_iconst 3 rfl (v := 0) dX9_conflictCount_2 (by decide) ?_
  refine V_istore_n 4 rfl 2 (L' := [some (zK 9 0), some (zI 0), some (zI 0)]) dX9_conflictCount_3 rfl (by decide) rfl ?_
  obtain ⟨o6, h1, h⟩ := zbd h
  refine wX9_conflictCount_L4 hd h1 (fun y4 e => ?_)
  have h := zcl_ e h
  refine V_iload_n 37 rfl 1 dX9_conflictCount_36 rfl rfl ?_
  exact V_iret dX9_conflictCount_37 rfl (hQ y4 (zinj h))
theorem ctX9_conflictCount {E : zE} {d : Nat} (hd : 2 ≤ d) {mm : zM} {o : Int32} (h : fX9_conflictCount mm = some o) : zOC E yX9_conflictCount cX9_conflictCount 3 (some .int) d [zK 9 0] mm (some (zI o)) mm :=
  zCT_of (by decide) (Nat.le_of_ble_eq_true rfl) (zk_k zk_0) rfl (wX9_conflictCount hd h (fun r e => ⟨by rw [e], rfl⟩))
def fX9_longestLine_L4 (mm : zM) (s : (Int32 × Int32)) : Option ((Int32 × Int32) ⊕ (Int32 ⊕ Empty)) :=
  (gr mm 9 2).bind (fun j1 => if (gi mm 8 j1 1) ≤ s.2 then (some (.inr (.inl s.1))) else (zob (zin s.2 12) (some (.inl ((if s.1 < ((gi mm 18 0 (zn s.2))) then ((gi mm 18 0 (zn s.2))) else s.1), (s.2 + 1))))))
def fX9_longestLine (mm : zM) : Option Int32 :=
  (zloop (fX9_longestLine_L4 mm) zF (0, 0)).bind (fun o4 => zcase o4 (fun y2 => some y2) (fun r3 => r3.elim))
theorem wX9_longestLine_L4 {E : zE} {d : Nat} (hd : 1 ≤ d) {Q : Option zV → zM → Prop} {mm : zM} {n : Nat} {s : (Int32 × Int32)} {o : Int32 ⊕ Empty} (h : zloop (fX9_longestLine_L4 mm) n s = some o) (he : ∀ y : Int32, o = .inl y → V E RX9 cX9_longestLine 3 (some .int) d Q 35 [none, some (zI y), none] [] mm) : V E RX9 cX9_longestLine 3 (some .int) d Q 4 [some (zK 9 0), some (zI s.1), some (zI s.2)] [] mm := by
  induction n generalizing s with
  | zero => exact (zloop_0 h).elim
  | succ n ih =>
    obtain ⟨o1, h1, hc1, he1⟩ := zloop_s h
    have kc : ∀ s' : (Int32 × Int32), o1 = .inl s' → V E RX9 cX9_longestLine 3 (some .int) d Q 4 [some (zK 9 0), some (zI s'.1), some (zI s'.2)] [] mm := fun s' e => ih (hc1 s' e)
    have ke : ∀ y : Int32, o1 = .inr (.inl y) → V E RX9 cX9_longestLine 3 (some .int) d Q 35 [none, some (zI y), none] [] mm := fun y e => he y (he1 _ e)
    clear h hc1 he1 ih
    have h := h1
    clear h1
    unfold fX9_longestLine_L4 at h
    refine V_iload_n 5 rfl 2 dX9_longestLine_4 rfl rfl ?_
    refine V_aload_n 6 rfl 0 dX9_longestLine_5 rfl rfl ?_
    obtain ⟨j1, hj, h⟩ := zbd h
    refine V_getm 9 rfl 8 dX9_longestLine_6 fl_X9_16 rfl rfl hj ?_
    refine V_geti 12 rfl dX9_longestLine_9 fl_X9_84 rfl ?_
    refine V_icmp_ge 15 35 rfl dX9_longestLine_12 (by decide) (fun c => ?_) (fun c => ?_)
    · have h := zpos c h
      exact V_w (zsub_n (zsub_s (zsub_n zsub_0))) (ke s.1 (zinj h))
    · have h := zneg c h
      refine V_iload_n 16 rfl 1 dX9_longestLine_15 rfl rfl ?_
      refine V_aload_n 17 rfl 0 dX9_longestLine_16 rfl rfl ?_
      refine V_getr 20 rfl 2 0 dX9_longestLine_17 fl_X9_51 rfl rfl rfl ?_
      refine V_getr 23 rfl 18 0 dX9_longestLine_20 fl_X9_238 rfl rfl rfl ?_
      refine V_iload_n 24 rfl 2 dX9_longestLine_23 rfl rfl ?_
      obtain ⟨hi, h⟩ := zobd h
      refine V_iald 25 rfl dX9_longestLine_24 rfl hi ?_
      refine V_mmax 28 rfl dX9_longestLine_25 tb_1080 (Nat.le_trans (by decide) hd) (Nat.le_of_ble_eq_true rfl) ?_
      refine V_istore_n 29 rfl 1 (L' := [some (zK 9 0), some (zI (if s.1 < ((gi mm 18 0 (zn s.2))) then ((gi mm 18 0 (zn s.2))) else s.1)), some (zI s.2)]) dX9_longestLine_28 rfl (by decide) rfl ?_
      refine V_iinc 32 rfl (s.2 + 1) (L' := [some (zK 9 0), some (zI (if s.1 < ((gi mm 18 0 (zn s.2))) then ((gi mm 18 0 (zn s.2))) else s.1)), some (zI (s.2 + 1))]) dX9_longestLine_29 rfl rfl (by decide) rfl ?_
      refine V_goto 4 dX9_longestLine_32 (by decide) ?_
      exact kc ((if s.1 < ((gi mm 18 0 (zn s.2))) then ((gi mm 18 0 (zn s.2))) else s.1), (s.2 + 1)) (zinj h)
theorem wX9_longestLine {E : zE} {d : Nat} (hd : 1 ≤ d) {Q : Option zV → zM → Prop} {mm : zM} {o : Int32} (h : fX9_longestLine mm = some o) (hQ : ∀ r, o = r → Q (some (zI r)) mm) : V E RX9 cX9_longestLine 3 (some .int) d Q 0 [some (zK 9 0), none, none] [] mm := by
  unfold fX9_longestLine at h
  refine V_iconst 1 rfl (v := 0) dX9_longestLine_0 (by decide) ?_
  refine V_istore_n 2 rfl 1 (L' := [some (zK 9 0), some (zI 0), none]) dX9_longestLine_1 rfl (by decide) rfl ?_
  refine V_iconst 3 rfl (v := 0) dX9_longestLine_2 (by decide) ?_
  refine V_istore_n 4 rfl 2 (L' := [some (zK 9 0), some (zI 0), some (zI 0)]) dX9_longestLine_3 rfl (by decide) rfl ?_
  obtain ⟨o4, h1, h⟩ := zbd h
  refine wX9_longestLine_L4 hd h1 (fun y2 e => ?_)
  have h := zcl_ e h
  refine V_iload_n 36 rfl 1 dX9_longestLine_35 rfl rfl ?_
  exact V_iret dX9_longestLine_36 rfl (hQ y2 (zinj h))
theorem ctX9_longestLine {E : zE} {d : Nat} (hd : 1 ≤ d) {mm : zM} {o : Int32} (h : fX9_longestLine mm = some o) : zOC E yX9_longestLine cX9_longestLine 3 (some .int) d [zK 9 0] mm (some (zI o)) mm :=
  zCT_of (by decide) (Nat.le_of_ble_eq_true rfl) (zk_k zk_0) rfl (wX9_longestLine hd h (fun r e => ⟨by rw [e], rfl⟩))
def fX9_bitsOfWhole_J43 (v1 : Int32) (v2 : Int32) (s0 : Int32) (mm : zM) : Option ((Int32 × Int32) ⊕ (Int32 ⊕ Empty)) :=
  if s0 = 0 then (some (.inl (v1, (v2 + 1)))) else ((fX9_lackedBits v2 mm).bind (fun x4 => if x4 = 0 then ((fX9_bitsAlongLine v2 3 mm).bind (fun x5 => if x5 = 0 then (some (.inl ((v1 ||| ((1 <<< (v2 &&& 31)))), (v2 + 1)))) else (some (.inl (v1, (v2 + 1)))))) else (some (.inl (v1, (v2 + 1))))))
def fX9_bitsOfWhole_J42 (v1 : Int32) (v2 : Int32) (mm : zM) : Option ((Int32 × Int32) ⊕ (Int32 ⊕ Empty)) :=
  fX9_bitsOfWhole_J43 v1 v2 0 mm
def fX9_bitsOfWhole_L4 (mm : zM) (s : (Int32 × Int32)) : Option ((Int32 × Int32) ⊕ (Int32 ⊕ Empty)) :=
  (gr mm 9 2).bind (fun j1 => if (gi mm 8 j1 1) ≤ s.2 then (some (.inr (.inl s.1))) else ((gr mm 9 2).bind (fun j2 => (fX8_isType j2 s.2 mm).bind (fun x3 => if x3 = 0 then (fX9_bitsOfWhole_J42 s.1 s.2 mm) else (zob (zin s.2 12) (if (gi mm 18 0 (zn s.2)) ≤ 0 then (fX9_bitsOfWhole_J42 s.1 s.2 mm) else (fX9_bitsOfWhole_J43 s.1 s.2 1 mm)))))))
def fX9_bitsOfWhole (mm : zM) : Option Int32 :=
  (zloop (fX9_bitsOfWhole_L4 mm) zF (0, 0)).bind (fun o8 => zcase o8 (fun y6 => some y6) (fun r7 => r7.elim))
theorem wX9_bitsOfWhole_J43 {E : zE} {d : Nat} (hd : 4 ≤ d) {Q : Option zV → zM → Prop} {v1 : Int32} {v2 : Int32} {s0 : Int32} {mm : zM} {o : ((Int32 × Int32) ⊕ (Int32 ⊕ Empty))} (h : fX9_bitsOfWhole_J43 v1 v2 s0 mm = some o) (kc : ∀ s' : (Int32 × Int32), o = .inl s' → V E RX9 cX9_bitsOfWhole 4 (some .int) d Q 4 [some (zK 9 0), some (zI s'.1), some (zI s'.2), none] [] mm) (ke : ∀ y : Int32, o = .inr (.inl y) → V E RX9 cX9_bitsOfWhole 4 (some .int) d Q 77 [none, some (zI y), none, none] [] mm) : V E RX9 cX9_bitsOfWhole 4 (some .int) d Q 43 [some (zK 9 0), some (zI v1), some (zI v2), none] [zI s0] mm := by
  unfold fX9_bitsOfWhole_J43 at h
  refine V_istore_n 44 rfl 3 (L' := [some (zK 9 0), some (zI v1), some (zI v2), some (zI s0)]) dX9_bitsOfWhole_43 rfl (by decide) rfl ?_
  refine V_iload_n 45 rfl 3 dX9_bitsOfWhole_44 rfl rfl ?_
  refine V_if_eq 48 71 rfl dX9_bitsOfWhole_45 (by decide) (fun c => ?_) (fun c => ?_)
  · have h := zpos c h
    refine V_iinc 74 rfl (v2 + 1) (L' := [some (zK 9 0), some (zI v1), some (zI (v2 + 1)), some (zI s0)]) dX9_bitsOfWhole_71 rfl rfl (by decide) rfl ?_
    refine V_goto 4 dX9_bitsOfWhole_74 (by decide) ?_
    exact V_w (zsub_s (zsub_s (zsub_s (zsub_n zsub_0)))) (kc (v1, (v2 + 1)) (zinj h))
  · have h := zneg c h
    refine V_aload_n 49 rfl 0 dX9_bitsOfWhole_48 rfl rfl ?_
    refine V_iload_n 50 rfl 2 dX9_bitsOfWhole_49 rfl rfl ?_
    obtain ⟨x4, h1, h⟩ := zbd h
    refine V_cV 53 rfl 3 [zI v2] [] dX9_bitsOfWhole_50 cv_X9_296 (ctX9_lackedBits (Nat.le_refl 3) h1) (Nat.le_trans (by decide) hd) rfl rfl (Nat.le_of_ble_eq_true rfl) zoki rfl ?_
    refine V_if_ne 56 71 rfl dX9_bitsOfWhole_53 (by decide) (fun c => ?_) (fun c => ?_)
    · have h := zneg c h
      refine V_iinc 74 rfl (v2 + 1) (L' := [some (zK 9 0), some (zI v1), some (zI (v2 + 1)), some (zI s0)]) dX9_bitsOfWhole_71 rfl rfl (by decide) rfl ?_
      refine V_goto 4 dX9_bitsOfWhole_74 (by decide) ?_
      exact V_w (zsub_s (zsub_s (zsub_s (zsub_n zsub_0)))) (kc (v1, (v2 + 1)) (zinj h))
    · have h := zpos c h
      refine V_aload_n 57 rfl 0 dX9_bitsOfWhole_56 rfl rfl ?_
      refine V_iload_n 58 rfl 2 dX9_bitsOfWhole_57 rfl rfl ?_
      refine V_iconst 59 rfl (v := 3) dX9_bitsOfWhole_58 (by decide) ?_
      obtain ⟨x5, h1, h⟩ := zbd h
      refine V_cV 62 rfl 2 [zI v2, zI 3] [] dX9_bitsOfWhole_59 cv_X9_299 (ctX9_bitsAlongLine (Nat.le_refl 2) h1) (Nat.le_trans (by decide) hd) rfl rfl (Nat.le_of_ble_eq_true rfl) zoki rfl ?_
      refine V_if_ne 65 71 rfl dX9_bitsOfWhole_62 (by decide) (fun c => ?_) (fun c => ?_)
      · have h := zneg c h
        refine V_iinc 74 rfl (v2 + 1) (L' := [some (zK 9 0), some (zI v1), some (zI (v2 + 1)), some (zI s0)]) dX9_bitsOfWhole_71 rfl rfl (by decide) rfl ?_
        refine V_goto 4 dX9_bitsOfWhole_74 (by decide) ?_
        exact V_w (zsub_s (zsub_s (zsub_s (zsub_n zsub_0)))) (kc (v1, (v2 + 1)) (zinj h))
      · have h := zpos c h
        refine V_iload_n 66 rfl 1 dX9_bitsOfWhole_65 rfl rfl ?_
        refine V_iconst 67 rfl (v := 1) dX9_bitsOfWhole_66 (by decide) ?_
        refine V_iload_n 68 rfl 2 dX9_bitsOfWhole_67 rfl rfl ?_
        refine V_ishl 69 rfl dX9_bitsOfWhole_68 ?_
        refine V_ior 70 rfl dX9_bitsOfWhole_69 ?_
        refine V_istore_n 71 rfl 1 (L' := [some (zK 9 0), some (zI (v1 ||| ((1 <<< (v2 &&& 31))))), some (zI v2), some (zI s0)]) dX9_bitsOfWhole_70 rfl (by decide) rfl ?_
        refine V_iinc 74 rfl (v2 + 1) (L' := [some (zK 9 0), some (zI (v1 ||| ((1 <<< (v2 &&& 31))))), some (zI (v2 + 1)), some (zI s0)]) dX9_bitsOfWhole_71 rfl rfl (by decide) rfl ?_
        refine V_goto 4 dX9_bitsOfWhole_74 (by decide) ?_
        exact V_w (zsub_s (zsub_s (zsub_s (zsub_n zsub_0)))) (kc ((v1 ||| ((1 <<< (v2 &&& 31)))), (v2 + 1)) (zinj h))
theorem wX9_bitsOfWhole_J42 {E : zE} {d : Nat} (hd : 4 ≤ d) {Q : Option zV → zM → Prop} {v1 : Int32} {v2 : Int32} {mm : zM} {o : ((Int32 × Int32) ⊕ (Int32 ⊕ Empty))} (h : fX9_bitsOfWhole_J42 v1 v2 mm = some o) (kc : ∀ s' : (Int32 × Int32), o = .inl s' → V E RX9 cX9_bitsOfWhole 4 (some .int) d Q 4 [some (zK 9 0), some (zI s'.1), some (zI s'.2), none] [] mm) (ke : ∀ y : Int32, o = .inr (.inl y) → V E RX9 cX9_bitsOfWhole 4 (some .int) d Q 77 [none, some (zI y), none, none] [] mm) : V E RX9 cX9_bitsOfWhole 4 (some .int) d Q 42 [some (zK 9 0), some (zI v1), some (zI v2), none] [] mm := by
  unfold fX9_bitsOfWhole_J42 at h
  refine V_iconst 43 rfl (v := 0) dX9_bitsOfWhole_42 (by decide) ?_
  exact wX9_bitsOfWhole_J43 hd h kc ke
theorem wX9_bitsOfWhole_L4 {E : zE} {d : Nat} (hd : 4 ≤ d) {Q : Option zV → zM → Prop} {mm : zM} {n : Nat} {s : (Int32 × Int32)} {o : Int32 ⊕ Empty} (h : zloop (fX9_bitsOfWhole_L4 mm) n s = some o) (he : ∀ y : Int32, o = .inl y → V E RX9 cX9_bitsOfWhole 4 (some .int) d Q 77 [none, some (zI y), none, none] [] mm) : V E RX9 cX9_bitsOfWhole 4 (some .int) d Q 4 [some (zK 9 0), some (zI s.1), some (zI s.2), none] [] mm := by
  induction n generalizing s with
  | zero => exact (zloop_0 h).elim
  | succ n ih =>
    obtain ⟨o1, h1, hc1, he1⟩ := zloop_s h
    have kc : ∀ s' : (Int32 × Int32), o1 = .inl s' → V E RX9 cX9_bitsOfWhole 4 (some .int) d Q 4 [some (zK 9 0), some (zI s'.1), some (zI s'.2), none] [] mm := fun s' e => ih (hc1 s' e)
    have ke : ∀ y : Int32, o1 = .inr (.inl y) → V E RX9 cX9_bitsOfWhole 4 (some .int) d Q 77 [none, some (zI y), none, none] [] mm := fun y e => he y (he1 _ e)
    clear h hc1 he1 ih
    have h := h1
    clear h1
    unfold fX9_bitsOfWhole_L4 at h
    refine V_iload_n 5 rfl 2 dX9_bitsOfWhole_4 rfl rfl ?_
    refine V_aload_n 6 rfl 0 dX9_bitsOfWhole_5 rfl rfl ?_
    obtain ⟨j1, hj, h⟩ := zbd h
    refine V_getm 9 rfl 8 dX9_bitsOfWhole_6 fl_X9_16 rfl rfl hj ?_
    refine V_geti 12 rfl dX9_bitsOfWhole_9 fl_X9_84 rfl ?_
    refine V_icmp_ge 15 77 rfl dX9_bitsOfWhole_12 (by decide) (fun c => ?_) (fun c => ?_)
    · have h := zpos c h
      exact V_w (zsub_n (zsub_s (zsub_n (zsub_s zsub_0)))) (ke s.1 (zinj h))
    · have h := zneg c h
      refine V_aload_n 16 rfl 0 dX9_bitsOfWhole_15 rfl rfl ?_
      obtain ⟨j2, hj, h⟩ := zbd h
      refine V_getm 19 rfl 8 dX9_bitsOfWhole_16 fl_X9_16 rfl rfl hj ?_
      refine V_iload_n 20 rfl 2 dX9_bitsOfWhole_19 rfl rfl ?_
      obtain ⟨x3, h1, h⟩ := zbd h
      refine V_cV 23 rfl 1 [zI s.2] [] dX9_bitsOfWhole_20 cv_X9_94 (ctX8_isType (Nat.le_refl 1) h1) (Nat.le_trans (by decide) hd) rfl rfl (Nat.le_of_ble_eq_true rfl) zoki rfl ?_
      refine V_if_eq 26 42 rfl dX9_bitsOfWhole_23 (by decide) (fun c => ?_) (fun c => ?_)
      · have h := zpos c h
        exact wX9_bitsOfWhole_J42 hd h kc ke
      · have h := zneg c h
        refine V_aload_n 27 rfl 0 dX9_bitsOfWhole_26 rfl rfl ?_
        refine V_getr 30 rfl 2 0 dX9_bitsOfWhole_27 fl_X9_51 rfl rfl rfl ?_
        refine V_getr 33 rfl 18 0 dX9_bitsOfWhole_30 fl_X9_238 rfl rfl rfl ?_
        refine V_iload_n 34 rfl 2 dX9_bitsOfWhole_33 rfl rfl ?_
        obtain ⟨hi, h⟩ := zobd h
        refine V_iald 35 rfl dX9_bitsOfWhole_34 rfl hi ?_
        refine V_if_le 38 42 rfl dX9_bitsOfWhole_35 (by decide) (fun c => ?_) (fun c => ?_)
        · have h := zpos c h
          exact wX9_bitsOfWhole_J42 hd h kc ke
        · have h := zneg c h
          refine V_iconst 39 rfl (v := 1) dX9_bitsOfWhole_38 (by decide) ?_
          refine V_goto 43 dX9_bitsOfWhole_39 (by decide) ?_
          exact wX9_bitsOfWhole_J43 hd h kc ke
theorem wX9_bitsOfWhole {E : zE} {d : Nat} (hd : 4 ≤ d) {Q : Option zV → zM → Prop} {mm : zM} {o : Int32} (h : fX9_bitsOfWhole mm = some o) (hQ : ∀ r, o = r → Q (some (zI r)) mm) : V E RX9 cX9_bitsOfWhole 4 (some .int) d Q 0 [some (zK 9 0), none, none, none] [] mm := by
  unfold fX9_bitsOfWhole at h
  refine V_iconst 1 rfl (v := 0) dX9_bitsOfWhole_0 (by decide) ?_
  refine V_istore_n 2 rfl 1 (L' := [some (zK 9 0), some (zI 0), none, none]) dX9_bitsOfWhole_1 rfl (by decide) rfl ?_
  refine V_iconst 3 rfl (v := 0) dX9_bitsOfWhole_2 (by decide) ?_
  refine V_istore_n 4 rfl 2 (L' := [some (zK 9 0), some (zI 0), some (zI 0), none]) dX9_bitsOfWhole_3 rfl (by decide) rfl ?_
  obtain ⟨o8, h1, h⟩ := zbd h
  refine wX9_bitsOfWhole_L4 hd h1 (fun y6 e => ?_)
  have h := zcl_ e h
  refine V_iload_n 78 rfl 1 dX9_bitsOfWhole_77 rfl rfl ?_
  exact V_iret dX9_bitsOfWhole_78 rfl (hQ y6 (zinj h))
theorem ctX9_bitsOfWhole {E : zE} {d : Nat} (hd : 4 ≤ d) {mm : zM} {o : Int32} (h : fX9_bitsOfWhole mm = some o) : zOC E yX9_bitsOfWhole cX9_bitsOfWhole 4 (some .int) d [zK 9 0] mm (some (zI o)) mm :=
  zCT_of (by decide) (Nat.le_of_ble_eq_true rfl) (zk_k zk_0) rfl (wX9_bitsOfWhole hd h (fun r e => ⟨by rw [e], rfl⟩))
def fX9_bitsWithoutLine_L4 (mm : zM) (s : (Int32 × Int32)) : Option ((Int32 × Int32) ⊕ (Int32 ⊕ Empty)) :=
  (gr mm 9 2).bind (fun j1 => if (gi mm 8 j1 1) ≤ s.2 then (some (.inr (.inl s.1))) else ((gr mm 9 2).bind (fun j2 => (fX8_isType j2 s.2 mm).bind (fun x3 => if x3 = 0 then (some (.inl (s.1, (s.2 + 1)))) else (zob (zin s.2 12) (if (gi mm 18 0 (zn s.2)) = 0 then (some (.inl ((s.1 ||| ((1 <<< (s.2 &&& 31)))), (s.2 + 1)))) else (some (.inl (s.1, (s.2 + 1))))))))))
def fX9_bitsWithoutLine (mm : zM) : Option Int32 :=
  (zloop (fX9_bitsWithoutLine_L4 mm) zF (0, 0)).bind (fun o6 => zcase o6 (fun y4 => some y4) (fun r5 => r5.elim))
theorem wX9_bitsWithoutLine_L4 {E : zE} {d : Nat} (hd : 2 ≤ d) {Q : Option zV → zM → Prop} {mm : zM} {n : Nat} {s : (Int32 × Int32)} {o : Int32 ⊕ Empty} (h : zloop (fX9_bitsWithoutLine_L4 mm) n s = some o) (he : ∀ y : Int32, o = .inl y → V E RX9 cX9_bitsWithoutLine 3 (some .int) d Q 50 [none, some (zI y), none] [] mm) : V E RX9 cX9_bitsWithoutLine 3 (some .int) d Q 4 [some (zK 9 0), some (zI s.1), some (zI s.2)] [] mm := by
  induction n generalizing s with
  | zero => exact (zloop_0 h).elim
  | succ n ih =>
    obtain ⟨o1, h1, hc1, he1⟩ := zloop_s h
    have kc : ∀ s' : (Int32 × Int32), o1 = .inl s' → V E RX9 cX9_bitsWithoutLine 3 (some .int) d Q 4 [some (zK 9 0), some (zI s'.1), some (zI s'.2)] [] mm := fun s' e => ih (hc1 s' e)
    have ke : ∀ y : Int32, o1 = .inr (.inl y) → V E RX9 cX9_bitsWithoutLine 3 (some .int) d Q 50 [none, some (zI y), none] [] mm := fun y e => he y (he1 _ e)
    clear h hc1 he1 ih
    have h := h1
    clear h1
    unfold fX9_bitsWithoutLine_L4 at h
    refine V_iload_n 5 rfl 2 dX9_bitsWithoutLine_4 rfl rfl ?_
    refine V_aload_n 6 rfl 0 dX9_bitsWithoutLine_5 rfl rfl ?_
    obtain ⟨j1, hj, h⟩ := zbd h
    refine V_getm 9 rfl 8 dX9_bitsWithoutLine_6 fl_X9_16 rfl rfl hj ?_
    refine V_geti 12 rfl dX9_bitsWithoutLine_9 fl_X9_84 rfl ?_
    refine V_icmp_ge 15 50 rfl dX9_bitsWithoutLine_12 (by decide) (fun c => ?_) (fun c => ?_)
    · have h := zpos c h
      exact V_w (zsub_n (zsub_s (zsub_n zsub_0))) (ke s.1 (zinj h))
    · have h := zneg c h
      refine V_aload_n 16 rfl 0 dX9_bitsWithoutLine_15 rfl rfl ?_
      obtain ⟨j2, hj, h⟩ := zbd h
      refine V_getm 19 rfl 8 dX9_bitsWithoutLine_16 fl_X9_16 rfl rfl hj ?_
      refine V_iload_n 20 rfl 2 dX9_bitsWithoutLine_19 rfl rfl ?_
      obtain ⟨x3, h1, h⟩ := zbd h
      refine V_cV 23 rfl 1 [zI s.2] [] dX9_bitsWithoutLine_20 cv_X9_94 (ctX8_isType (Nat.le_refl 1) h1) (Nat.le_trans (by decide) hd) rfl rfl (Nat.le_of_ble_eq_true rfl) zoki rfl ?_
      refine V_if_eq 26 44 rfl dX9_bitsWithoutLine_23 (by decide) (fun c => ?_) (fun c => ?_)
      · have h := zpos c h
        refine V_iinc 47 rfl (s.2 + 1) (L' := [some (zK 9 0), some (zI s.1), some (zI (s.2 + 1))]) dX9_bitsWithoutLine_44 rfl rfl (by decide) rfl ?_
        refine V_goto 4 dX9_bitsWithoutLine_47 (by decide) ?_
        exact kc (s.1, (s.2 + 1)) (zinj h)
      · have h := zneg c h
        refine V_aload_n 27 rfl 0 dX9_bitsWithoutLine_26 rfl rfl ?_
        refine V_getr 30 rfl 2 0 dX9_bitsWithoutLine_27 fl_X9_51 rfl rfl rfl ?_
        refine V_getr 33 rfl 18 0 dX9_bitsWithoutLine_30 fl_X9_238 rfl rfl rfl ?_
        refine V_iload_n 34 rfl 2 dX9_bitsWithoutLine_33 rfl rfl ?_
        obtain ⟨hi, h⟩ := zobd h
        refine V_iald 35 rfl dX9_bitsWithoutLine_34 rfl hi ?_
        refine V_if_ne 38 44 rfl dX9_bitsWithoutLine_35 (by decide) (fun c => ?_) (fun c => ?_)
        · have h := zneg c h
          refine V_iinc 47 rfl (s.2 + 1) (L' := [some (zK 9 0), some (zI s.1), some (zI (s.2 + 1))]) dX9_bitsWithoutLine_44 rfl rfl (by decide) rfl ?_
          refine V_goto 4 dX9_bitsWithoutLine_47 (by decide) ?_
          exact kc (s.1, (s.2 + 1)) (zinj h)
        · have h := zpos c h
          refine V_iload_n 39 rfl 1 dX9_bitsWithoutLine_38 rfl rfl ?_
          refine V_iconst 40 rfl (v := 1) dX9_bitsWithoutLine_39 (by decide) ?_
          refine V_iload_n 41 rfl 2 dX9_bitsWithoutLine_40 rfl rfl ?_
          refine V_ishl 42 rfl dX9_bitsWithoutLine_41 ?_
          refine V_ior 43 rfl dX9_bitsWithoutLine_42 ?_
          refine V_istore_n 44 rfl 1 (L' := [some (zK 9 0), some (zI (s.1 ||| ((1 <<< (s.2 &&& 31))))), some (zI s.2)]) dX9_bitsWithoutLine_43 rfl (by decide) rfl ?_
          refine V_iinc 47 rfl (s.2 + 1) (L' := [some (zK 9 0), some (zI (s.1 ||| ((1 <<< (s.2 &&& 31))))), some (zI (s.2 + 1))]) dX9_bitsWithoutLine_44 rfl rfl (by decide) rfl ?_
          refine V_goto 4 dX9_bitsWithoutLine_47 (by decide) ?_
          exact kc ((s.1 ||| ((1 <<< (s.2 &&& 31)))), (s.2 + 1)) (zinj h)
theorem wX9_bitsWithoutLine {E : zE} {d : Nat} (hd : 2 ≤ d) {Q : Option zV → zM → Prop} {mm : zM} {o : Int32} (h : fX9_bitsWithoutLine mm = some o) (hQ : ∀ r, o = r → Q (some (zI r)) mm) : V E RX9 cX9_bitsWithoutLine 3 (some .int) d Q 0 [some (zK 9 0), none, none] [] mm := by
  unfold fX9_bitsWithoutLine at h
  refine V_iconst 1 rfl (v := 0) dX9_bitsWithoutLine_0 (by decide) ?_
  refine V_istore_n 2 rfl 1 (L' := [some (zK 9 0), some (zI 0), none]) dX9_bitsWithoutLine_1 rfl (by decide) rfl ?_
  refine V_iconst 3 rfl (v := 0) dX9_bitsWithoutLine_2 (by decide) ?_
  refine V_istore_n 4 rfl 2 (L' := [some (zK 9 0), some (zI 0), some (zI 0)]) dX9_bitsWithoutLine_3 rfl (by decide) rfl ?_
  obtain ⟨o6, h1, h⟩ := zbd h
  refine wX9_bitsWithoutLine_L4 hd h1 (fun y4 e => ?_)
  have h := zcl_ e h
  refine V_iload_n 51 rfl 1 dX9_bitsWithoutLine_50 rfl rfl ?_
  exact V_iret dX9_bitsWithoutLine_51 rfl (hQ y4 (zinj h))
theorem ctX9_bitsWithoutLine {E : zE} {d : Nat} (hd : 2 ≤ d) {mm : zM} {o : Int32} (h : fX9_bitsWithoutLine mm = some o) : zOC E yX9_bitsWithoutLine cX9_bitsWithoutLine 3 (some .int) d [zK 9 0] mm (some (zI o)) mm :=
  zCT_of (by decide) (Nat.le_of_ble_eq_true rfl) (zk_k zk_0) rfl (wX9_bitsWithoutLine hd h (fun r e => ⟨by rw [e], rfl⟩))
def fX8_traitCount_L4 (v0 : Nat) (mm : zM) (s : (Int32 × Int32)) : Option ((Int32 × Int32) ⊕ (Int32 ⊕ Empty)) :=
  if (gi mm 8 v0 1) ≤ s.2 then (some (.inr (.inl s.1))) else (zob (zin s.2 12) (if (gi mm 7 (12 * v0 + zn s.2) 0) = 0 then (some (.inl (s.1, (s.2 + 1)))) else (some (.inl ((s.1 + 1), (s.2 + 1))))))
def fX8_traitCount (v0 : Nat) (mm : zM) : Option Int32 :=
  (zloop (fX8_traitCount_L4 v0 mm) zF (0, 0)).bind (fun o3 => zcase o3 (fun y1 => some y1) (fun r2 => r2.elim))
theorem wX8_traitCount_L4 {E : zE} {d : Nat} (hd : 0 ≤ d) {Q : Option zV → zM → Prop} {v0 : Nat} {mm : zM} {n : Nat} {s : (Int32 × Int32)} {o : Int32 ⊕ Empty} (h : zloop (fX8_traitCount_L4 v0 mm) n s = some o) (he : ∀ y : Int32, o = .inl y → V E RX8 cX8_traitCount 3 (some .int) d Q 33 [none, some (zI y), none] [] mm) : V E RX8 cX8_traitCount 3 (some .int) d Q 4 [some (zK 8 v0), some (zI s.1), some (zI s.2)] [] mm := by
  induction n generalizing s with
  | zero => exact (zloop_0 h).elim
  | succ n ih =>
    obtain ⟨o1, h1, hc1, he1⟩ := zloop_s h
    have kc : ∀ s' : (Int32 × Int32), o1 = .inl s' → V E RX8 cX8_traitCount 3 (some .int) d Q 4 [some (zK 8 v0), some (zI s'.1), some (zI s'.2)] [] mm := fun s' e => ih (hc1 s' e)
    have ke : ∀ y : Int32, o1 = .inr (.inl y) → V E RX8 cX8_traitCount 3 (some .int) d Q 33 [none, some (zI y), none] [] mm := fun y e => he y (he1 _ e)
    clear h hc1 he1 ih
    have h := h1
    clear h1
    unfold fX8_traitCount_L4 at h
    refine V_iload_n 5 rfl 2 dX8_traitCount_4 rfl rfl ?_
    refine V_aload_n 6 rfl 0 dX8_traitCount_5 rfl rfl ?_
    refine V_geti 9 rfl dX8_traitCount_6 fl_X8_18 rfl ?_
    refine V_icmp_ge 12 33 rfl dX8_traitCount_9 (by decide) (fun c => ?_) (fun c => ?_)
    · have h := zpos c h
      exact V_w (zsub_n (zsub_s (zsub_n zsub_0))) (ke s.1 (zinj h))
    · have h := zneg c h
      refine V_aload_n 13 rfl 0 dX8_traitCount_12 rfl rfl ?_
      refine V_getr 16 rfl 35 v0 dX8_traitCount_13 fl_X8_11 rfl rfl rfl ?_
      refine V_iload_n 17 rfl 2 dX8_traitCount_16 rfl rfl ?_
      obtain ⟨hi, h⟩ := zobd h
      refine V_aald 18 rfl 7 (12 * v0 + zn s.2) dX8_traitCount_17 rfl (by decide) (by decide) rfl rfl hi ?_
      refine V_geti 21 rfl dX8_traitCount_18 fl_X8_26 rfl ?_
      refine V_if_eq 24 27 rfl dX8_traitCount_21 (by decide) (fun c => ?_) (fun c => ?_)
      · have h := zpos c h
        refine V_iinc 30 rfl (s.2 + 1) (L' := [some (zK 8 v0), some (zI s.1), some (zI (s.2 + 1))]) dX8_traitCount_27 rfl rfl (by decide) rfl ?_
        refine V_goto 4 dX8_traitCount_30 (by decide) ?_
        exact kc (s.1, (s.2 + 1)) (zinj h)
      · have h := zneg c h
        refine V_iinc 27 rfl (s.1 + 1) (L' := [some (zK 8 v0), some (zI (s.1 + 1)), some (zI s.2)]) dX8_traitCount_24 rfl rfl (by decide) rfl ?_
        refine V_iinc 30 rfl (s.2 + 1) (L' := [some (zK 8 v0), some (zI (s.1 + 1)), some (zI (s.2 + 1))]) dX8_traitCount_27 rfl rfl (by decide) rfl ?_
        refine V_goto 4 dX8_traitCount_30 (by decide) ?_
        exact kc ((s.1 + 1), (s.2 + 1)) (zinj h)
theorem wX8_traitCount {E : zE} {d : Nat} (hd : 0 ≤ d) {Q : Option zV → zM → Prop} {v0 : Nat} {mm : zM} {o : Int32} (h : fX8_traitCount v0 mm = some o) (hQ : ∀ r, o = r → Q (some (zI r)) mm) : V E RX8 cX8_traitCount 3 (some .int) d Q 0 [some (zK 8 v0), none, none] [] mm := by
  unfold fX8_traitCount at h
  refine V_iconst 1 rfl (v := 0) dX8_traitCount_0 (by decide) ?_
  refine V_istore_n 2 rfl 1 (L' := [some (zK 8 v0), some (zI 0), none]) dX8_traitCount_1 rfl (by decide) rfl ?_
  refine V_iconst 3 rfl (v := 0) dX8_traitCount_2 (by decide) ?_
  refine V_istore_n 4 rfl 2 (L' := [some (zK 8 v0), some (zI 0), some (zI 0)]) dX8_traitCount_3 rfl (by decide) rfl ?_
  obtain ⟨o3, h1, h⟩ := zbd h
  refine wX8_traitCount_L4 hd h1 (fun y1 e => ?_)
  have h := zcl_ e h
  refine V_iload_n 34 rfl 1 dX8_traitCount_33 rfl rfl ?_
  exact V_iret dX8_traitCount_34 rfl (hQ y1 (zinj h))
theorem ctX8_traitCount {E : zE} {d : Nat} (hd : 0 ≤ d) {v0 : Nat} {mm : zM} {o : Int32} (h : fX8_traitCount v0 mm = some o) : zOC E yX8_traitCount cX8_traitCount 3 (some .int) d [zK 8 v0] mm (some (zI o)) mm :=
  zCT_of (by decide) (Nat.le_of_ble_eq_true rfl) (zk_k zk_0) rfl (wX8_traitCount hd h (fun r e => ⟨by rw [e], rfl⟩))
def fX9_count (v1 : Int32) (mm : zM) : Option (Int32 × zM) :=
  (fX9_settle mm).bind (fun x1 => if v1 = 0 then ((gr x1 9 2).bind (fun j12 => some (((gi x1 8 j12 1), x1)))) else (if v1 = 1 then ((gr x1 9 2).bind (fun j9 => (gr x1 9 2).bind (fun j10 => (fX8_traitCount j10 x1).bind (fun x11 => some (((((gi x1 8 j9 1)) - x11), x1)))))) else (if v1 = 2 then ((gr x1 9 2).bind (fun j7 => (fX8_traitCount j7 x1).bind (fun x8 => some ((x8, x1))))) else (if v1 = 3 then ((fX9_bitsWithoutLine x1).bind (fun x6 => some ((x6, x1)))) else (if v1 = 4 then ((fX9_bitsOfWhole x1).bind (fun x5 => some ((x5, x1)))) else (if v1 = 5 then ((fX9_longestLine x1).bind (fun x4 => some ((x4, x1)))) else (if v1 = 6 then ((fX9_conflictCount x1).bind (fun x3 => some ((x3, x1)))) else (if v1 = 7 then (some (((gi x1 1 0 3), x1))) else (if v1 = 8 then (some (((gi x1 9 0 1), x1))) else (if v1 = 9 then (some (((gi x1 9 0 5), x1))) else (if v1 = 10 then ((fX9_bitsOfLowest x1).bind (fun x2 => some ((x2, x1)))) else (some (((-1), x1))))))))))))))
theorem wX9_count {E : zE} {d : Nat} (hd : 5 ≤ d) {Q : Option zV → zM → Prop} {v1 : Int32} {mm : zM} {o : (Int32 × zM)} (h : fX9_count v1 mm = some o) (hQ : ∀ r, o = r → Q (some (zI r.1)) r.2) : V E RX9 cX9_count 2 (some .int) d Q 0 [some (zK 9 0), some (zI v1)] [] mm := by
  unfold fX9_count at h
  refine V_aload_n 1 rfl 0 dX9_count_0 rfl rfl ?_
  obtain ⟨x1, h1, h⟩ := zbd h
  refine V_cV 4 rfl 4 [] [] dX9_count_1 cv_X9_201 (ctX9_settle (Nat.le_refl 4) h1) (Nat.le_trans (by decide) hd) rfl rfl (Nat.le_of_ble_eq_true rfl) zokn rfl ?_
  refine V_iload_n 5 rfl 1 dX9_count_4 rfl rfl ?_
  by_cases h_0 : v1 = 0
  · have h := zpos h_0 h
    refine V_tabIn 64 (off := 59) dX9_count_5 (by rw [h_0]; decide) (by rw [h_0]; decide) (by rw [h_0]; decide) (by decide) ?_
    refine V_aload_n 65 rfl 0 dX9_count_64 rfl rfl ?_
    obtain ⟨j12, hj, h⟩ := zbd h
    refine V_getm 68 rfl 8 dX9_count_65 fl_X9_16 rfl rfl hj ?_
    refine V_geti 71 rfl dX9_count_68 fl_X9_84 rfl ?_
    exact V_iret dX9_count_71 rfl (hQ (((gi x1 8 j12 1), x1)) (zinj h))
  · have h := zneg h_0 h
    by_cases h_1 : v1 = 1
    · have h := zpos h_1 h
      refine V_tabIn 72 (off := 67) dX9_count_5 (by rw [h_1]; decide) (by rw [h_1]; decide) (by rw [h_1]; decide) (by decide) ?_
      refine V_aload_n 73 rfl 0 dX9_count_72 rfl rfl ?_
      obtain ⟨j9, hj, h⟩ := zbd h
      refine V_getm 76 rfl 8 dX9_count_73 fl_X9_16 rfl rfl hj ?_
      refine V_geti 79 rfl dX9_count_76 fl_X9_84 rfl ?_
      refine V_aload_n 80 rfl 0 dX9_count_79 rfl rfl ?_
      obtain ⟨j10, hj, h⟩ := zbd h
      refine V_getm 83 rfl 8 dX9_count_80 fl_X9_16 rfl rfl hj ?_
      obtain ⟨x11, h1, h⟩ := zbd h
      refine V_cV 86 rfl 0 [] [zI (gi x1 8 j9 1)] dX9_count_83 cv_X9_318 (ctX8_traitCount (Nat.le_refl 0) h1) (Nat.le_trans (by decide) hd) rfl rfl (Nat.le_of_ble_eq_true rfl) zoki rfl ?_
      refine V_isub 87 rfl dX9_count_86 ?_
      exact V_iret dX9_count_87 rfl (hQ (((((gi x1 8 j9 1)) - x11), x1)) (zinj h))
    · have h := zneg h_1 h
      by_cases h_2 : v1 = 2
      · have h := zpos h_2 h
        refine V_tabIn 88 (off := 83) dX9_count_5 (by rw [h_2]; decide) (by rw [h_2]; decide) (by rw [h_2]; decide) (by decide) ?_
        refine V_aload_n 89 rfl 0 dX9_count_88 rfl rfl ?_
        obtain ⟨j7, hj, h⟩ := zbd h
        refine V_getm 92 rfl 8 dX9_count_89 fl_X9_16 rfl rfl hj ?_
        obtain ⟨x8, h1, h⟩ := zbd h
        refine V_cV 95 rfl 0 [] [] dX9_count_92 cv_X9_318 (ctX8_traitCount (Nat.le_refl 0) h1) (Nat.le_trans (by decide) hd) rfl rfl (Nat.le_of_ble_eq_true rfl) zoki rfl ?_
        exact V_iret dX9_count_95 rfl (hQ ((x8, x1)) (zinj h))
      · have h := zneg h_2 h
        by_cases h_3 : v1 = 3
        · have h := zpos h_3 h
          refine V_tabIn 96 (off := 91) dX9_count_5 (by rw [h_3]; decide) (by rw [h_3]; decide) (by rw [h_3]; decide) (by decide) ?_
          refine V_aload_n 97 rfl 0 dX9_count_96 rfl rfl ?_
          obtain ⟨x6, h1, h⟩ := zbd h
          refine V_cV 100 rfl 2 [] [] dX9_count_97 cv_X9_321 (ctX9_bitsWithoutLine (Nat.le_refl 2) h1) (Nat.le_trans (by decide) hd) rfl rfl (Nat.le_of_ble_eq_true rfl) zoki rfl ?_
          exact V_iret dX9_count_100 rfl (hQ ((x6, x1)) (zinj h))
        · have h := zneg h_3 h
          by_cases h_4 : v1 = 4
          · have h := zpos h_4 h
            refine V_tabIn 101 (off := 96) dX9_count_5 (by rw [h_4]; decide) (by rw [h_4]; decide) (by rw [h_4]; decide) (by decide) ?_
            refine V_aload_n 102 rfl 0 dX9_count_101 rfl rfl ?_
            obtain ⟨x5, h1, h⟩ := zbd h
            refine V_cV 105 rfl 4 [] [] dX9_count_102 cv_X9_324 (ctX9_bitsOfWhole (Nat.le_refl 4) h1) (Nat.le_trans (by decide) hd) rfl rfl (Nat.le_of_ble_eq_true rfl) zoki rfl ?_
            exact V_iret dX9_count_105 rfl (hQ ((x5, x1)) (zinj h))
          · have h := zneg h_4 h
            by_cases h_5 : v1 = 5
            · have h := zpos h_5 h
              refine V_tabIn 106 (off := 101) dX9_count_5 (by rw [h_5]; decide) (by rw [h_5]; decide) (by rw [h_5]; decide) (by decide) ?_
              refine V_aload_n 107 rfl 0 dX9_count_106 rfl rfl ?_
              obtain ⟨x4, h1, h⟩ := zbd h
              refine V_cV 110 rfl 1 [] [] dX9_count_107 cv_X9_327 (ctX9_longestLine (Nat.le_refl 1) h1) (Nat.le_trans (by decide) hd) rfl rfl (Nat.le_of_ble_eq_true rfl) zoki rfl ?_
              exact V_iret dX9_count_110 rfl (hQ ((x4, x1)) (zinj h))
            · have h := zneg h_5 h
              by_cases h_6 : v1 = 6
              · have h := zpos h_6 h
                refine V_tabIn 111 (off := 106) dX9_count_5 (by rw [h_6]; decide) (by rw [h_6]; decide) (by rw [h_6]; decide) (by decide) ?_
                refine V_aload_n 112 rfl 0 dX9_count_111 rfl rfl ?_
                obtain ⟨x3, h1, h⟩ := zbd h
                refine V_cV 115 rfl 2 [] [] dX9_count_112 cv_X9_330 (ctX9_conflictCount (Nat.le_refl 2) h1) (Nat.le_trans (by decide) hd) rfl rfl (Nat.le_of_ble_eq_true rfl) zoki rfl ?_
                exact V_iret dX9_count_115 rfl (hQ ((x3, x1)) (zinj h))
              · have h := zneg h_6 h
                by_cases h_7 : v1 = 7
                · have h := zpos h_7 h
                  refine V_tabIn 116 (off := 111) dX9_count_5 (by rw [h_7]; decide) (by rw [h_7]; decide) (by rw [h_7]; decide) (by decide) ?_
                  refine V_aload_n 117 rfl 0 dX9_count_116 rfl rfl ?_
                  refine V_getr 120 rfl 1 0 dX9_count_117 fl_X9_37 rfl rfl rfl ?_
                  refine V_geti 123 rfl dX9_count_120 fl_X9_186 rfl ?_
                  exact V_iret dX9_count_123 rfl (hQ (((gi x1 1 0 3), x1)) (zinj h))
                · have h := zneg h_7 h
                  by_cases h_8 : v1 = 8
                  · have h := zpos h_8 h
                    refine V_tabIn 124 (off := 119) dX9_count_5 (by rw [h_8]; decide) (by rw [h_8]; decide) (by rw [h_8]; decide) (by decide) ?_
                    refine V_aload_n 125 rfl 0 dX9_count_124 rfl rfl ?_
                    refine V_geti 128 rfl dX9_count_125 fl_X9_69 rfl ?_
                    exact V_iret dX9_count_128 rfl (hQ (((gi x1 9 0 1), x1)) (zinj h))
                  · have h := zneg h_8 h
                    by_cases h_9 : v1 = 9
                    · have h := zpos h_9 h
                      refine V_tabIn 129 (off := 124) dX9_count_5 (by rw [h_9]; decide) (by rw [h_9]; decide) (by rw [h_9]; decide) (by decide) ?_
                      refine V_aload_n 130 rfl 0 dX9_count_129 rfl rfl ?_
                      refine V_geti 133 rfl dX9_count_130 fl_X9_194 rfl ?_
                      exact V_iret dX9_count_133 rfl (hQ (((gi x1 9 0 5), x1)) (zinj h))
                    · have h := zneg h_9 h
                      by_cases h_10 : v1 = 10
                      · have h := zpos h_10 h
                        refine V_tabIn 134 (off := 129) dX9_count_5 (by rw [h_10]; decide) (by rw [h_10]; decide) (by rw [h_10]; decide) (by decide) ?_
                        refine V_aload_n 135 rfl 0 dX9_count_134 rfl rfl ?_
                        obtain ⟨x2, h1, h⟩ := zbd h
                        refine V_cV 138 rfl 2 [] [] dX9_count_135 cv_X9_333 (ctX9_bitsOfLowest (Nat.le_refl 2) h1) (Nat.le_trans (by decide) hd) rfl rfl (Nat.le_of_ble_eq_true rfl) zoki rfl ?_
                        exact V_iret dX9_count_138 rfl (hQ ((x2, x1)) (zinj h))
                      · have h := zneg h_10 h
                        refine V_tabOut 139 dX9_count_5 (by have n0 := zne h_0; simp only [show ((0 : Int32)).toInt = 0 from by decide] at n0; have n1 := zne h_1; simp only [show ((1 : Int32)).toInt = 1 from by decide] at n1; have n2 := zne h_2; simp only [show ((2 : Int32)).toInt = 2 from by decide] at n2; have n3 := zne h_3; simp only [show ((3 : Int32)).toInt = 3 from by decide] at n3; have n4 := zne h_4; simp only [show ((4 : Int32)).toInt = 4 from by decide] at n4; have n5 := zne h_5; simp only [show ((5 : Int32)).toInt = 5 from by decide] at n5; have n6 := zne h_6; simp only [show ((6 : Int32)).toInt = 6 from by decide] at n6; have n7 := zne h_7; simp only [show ((7 : Int32)).toInt = 7 from by decide] at n7; have n8 := zne h_8; simp only [show ((8 : Int32)).toInt = 8 from by decide] at n8; have n9 := zne h_9; simp only [show ((9 : Int32)).toInt = 9 from by decide] at n9; have n10 := zne h_10; simp only [show ((10 : Int32)).toInt = 10 from by decide] at n10; omega) (by decide) ?_
                        refine V_iconst 140 rfl (v := (-1)) dX9_count_139 (by decide) ?_
                        exact V_iret dX9_count_140 rfl (hQ (((-1), x1)) (zinj h))
theorem ctX9_count {E : zE} {d : Nat} (hd : 5 ≤ d) {v1 : Int32} {mm : zM} {o : (Int32 × zM)} (h : fX9_count v1 mm = some o) : zOC E yX9_count cX9_count 2 (some .int) d [zK 9 0, zI v1] mm (some (zI o.1)) o.2 :=
  zCT_of (by decide) (Nat.le_of_ble_eq_true rfl) (zk_k (zk_i zk_0)) rfl (wX9_count hd h (fun r e => ⟨by rw [e], by rw [e]⟩))
