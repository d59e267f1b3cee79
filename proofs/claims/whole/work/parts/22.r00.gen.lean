def fX10_puts_L3 (v1 : Int32) (s : (Int32 × zM)) : Option ((Int32 × zM) ⊕ (zM ⊕ Empty)) :=
  if s.1 < 0 then (some (.inr (.inl s.2))) else (zob (zin ((gi s.2 10 0 7)) 400) (some (.inl ((s.1 + (-8)), (wi ((wi s.2 43 0 (zn ((gi s.2 10 0 7))) ((((v1 >>> (s.1 &&& 31)) : Int32).toInt8.toInt32 : Int32).toInt8.toInt32))) 10 0 7 ((((gi ((wi s.2 43 0 (zn ((gi s.2 10 0 7))) ((((v1 >>> (s.1 &&& 31)) : Int32).toInt8.toInt32 : Int32).toInt8.toInt32))) 10 0 7)) + 1)))))))
def fX10_puts (v1 : Int32) (mm : zM) : Option zM :=
  (zloop (fX10_puts_L3 v1) zF (24, mm)).bind (fun o3 => zcase o3 (fun y1 => some y1) (fun r2 => r2.elim))
theorem wX10_puts_L3 {E : zE} {d : Nat} (hd : 0 ≤ d) {Q : Option zV → zM → Prop} {v1 : Int32} {n : Nat} {s : (Int32 × zM)} {o : zM ⊕ Empty} (h : zloop (fX10_puts_L3 v1) n s = some o) (he : ∀ y : zM, o = .inl y → V E RX10 cX10_puts 3 none d Q 36 [none, none, none] [] y) : V E RX10 cX10_puts 3 none d Q 3 [some (zK 10 0), some (zI v1), some (zI s.1)] [] s.2 := by
  induction n generalizing s with
  | zero => exact (zloop_0 h).elim
  | succ n ih =>
    obtain ⟨o1, h1, hc1, he1⟩ := zloop_s h
    have kc : ∀ s' : (Int32 × zM), o1 = .inl s' → V E RX10 cX10_puts 3 none d Q 3 [some (zK 10 0), some (zI v1), some (zI s'.1)] [] s'.2 := fun s' e => ih (hc1 s' e)
    have ke : ∀ y : zM, o1 = .inr (.inl y) → V E RX10 cX10_puts 3 none d Q 36 [none, none, none] [] y := fun y e => he y (he1 _ e)
    clear h hc1 he1 ih
    have h := h1
    clear h1
    unfold fX10_puts_L3 at h
    refine V_iload_n 4 rfl 2 dX10_puts_3 rfl rfl ?_
    refine V_if_lt 7 36 rfl dX10_puts_4 (by decide) (fun c => ?_) (fun c => ?_)
    · have h := zpos c h
      exact V_w (zsub_n (zsub_n (zsub_n zsub_0))) (ke s.2 (zinj h))
    · have h := zneg c h
      refine V_aload_n 8 rfl 0 dX10_puts_7 rfl rfl ?_
      refine V_getr 11 rfl 43 0 dX10_puts_8 fl_X10_28 rfl rfl rfl ?_
      refine V_aload_n 12 rfl 0 dX10_puts_11 rfl rfl ?_
      refine V_geti 15 rfl dX10_puts_12 fl_X10_63 rfl ?_
      refine V_iload_n 16 rfl 1 dX10_puts_15 rfl rfl ?_
      refine V_iload_n 17 rfl 2 dX10_puts_16 rfl rfl ?_
      refine V_ishr 18 rfl dX10_puts_17 ?_
      refine V_i2b 19 rfl dX10_puts_18 ?_
      obtain ⟨hi, h⟩ := zobd h
      refine V_bast 20 rfl dX10_puts_19 rfl hi ?_
      refine V_aload_n 21 rfl 0 dX10_puts_20 rfl rfl ?_
      refine V_dup 22 rfl dX10_puts_21 rfl ?_
      refine V_geti 25 rfl dX10_puts_22 fl_X10_63 rfl ?_
      refine V_iconst 26 rfl (v := 1) dX10_puts_25 (by decide) ?_
      refine V_iadd 27 rfl dX10_puts_26 ?_
      refine V_puti 30 rfl dX10_puts_27 fw_X10_63 rfl rfl rfl ?_
      refine V_iinc 33 rfl (s.1 + (-8)) (L' := [some (zK 10 0), some (zI v1), some (zI (s.1 + (-8)))]) dX10_puts_30 rfl rfl (by decide) rfl ?_
      refine V_goto 3 dX10_puts_33 (by decide) ?_
      exact kc ((s.1 + (-8)), (wi ((wi s.2 43 0 (zn ((gi s.2 10 0 7))) ((((v1 >>> (s.1 &&& 31)) : Int32).toInt8.toInt32 : Int32).toInt8.toInt32))) 10 0 7 ((((gi ((wi s.2 43 0 (zn ((gi s.2 10 0 7))) ((((v1 >>> (s.1 &&& 31)) : Int32).toInt8.toInt32 : Int32).toInt8.toInt32))) 10 0 7)) + 1)))) (zinj h)
theorem wX10_puts {E : zE} {d : Nat} (hd : 0 ≤ d) {Q : Option zV → zM → Prop} {v1 : Int32} {mm : zM} {o : zM} (h : fX10_puts v1 mm = some o) (hQ : ∀ r, o = r → Q none r) : V E RX10 cX10_puts 3 none d Q 0 [some (zK 10 0), some (zI v1), none] [] mm := by
  unfold fX10_puts at h
  refine V_bipush 2 rfl (v := 24) dX10_puts_0 (by decide) ?_
  refine V_istore_n 3 rfl 2 (L' := [some (zK 10 0), some (zI v1), some (zI 24)]) dX10_puts_2 rfl (by decide) rfl ?_
  obtain ⟨o3, h1, h⟩ := zbd h
  refine wX10_puts_L3 hd h1 (fun y1 e => ?_)
  have h := zcl_ e h
  exact V_vret dX10_puts_36 rfl (hQ y1 (zinj h))
theorem ctX10_puts {E : zE} {d : Nat} (hd : 0 ≤ d) {v1 : Int32} {mm : zM} {o : zM} (h : fX10_puts v1 mm = some o) : zOC E yX10_puts cX10_puts 3 none d [zK 10 0, zI v1] mm none o :=
  zCT_of (by decide) (Nat.le_of_ble_eq_true rfl) (zk_k (zk_i zk_0)) rfl (wX10_puts hd h (fun r e => ⟨rfl, by rw [e]⟩))
def fX10_feed (v1 : Int32) (v2 : Int32) (v3 : Int32) (v4 : Int32) (v5 : Int32) (mm : zM) : Option (Int32 × zM) :=
  if (((gi mm 10 0 7)) + 20) ≤ 400 then ((fX10_puts v1 mm).bind (fun x1 => (fX10_puts v2 x1).bind (fun x2 => (fX10_puts v3 x2).bind (fun x3 => (fX10_puts v4 x3).bind (fun x4 => (fX10_puts v5 x4).bind (fun x5 => some (((gi x5 10 0 7), x5)))))))) else (some (((-1), mm)))
theorem wX10_feed {E : zE} {d : Nat} (hd : 1 ≤ d) {Q : Option zV → zM → Prop} {v1 : Int32} {v2 : Int32} {v3 : Int32} {v4 : Int32} {v5 : Int32} {mm : zM} {o : (Int32 × zM)} (h : fX10_feed v1 v2 v3 v4 v5 mm = some o) (hQ : ∀ r, o = r → Q (some (zI r.1)) r.2) : V E RX10 cX10_feed 6 (some .int) d Q 0 [some (zK 10 0), some (zI v1), some (zI v2), some (zI v3), some (zI v4), some (zI v5)] [] mm := by
  unfold fX10_feed at h
  refine V_aload_n 1 rfl 0 dX10_feed_0 rfl rfl ?_
  refine V_geti 4 rfl dX10_feed_1 fl_X10_63 rfl ?_
  refine V_bipush 6 rfl (v := 20) dX10_feed_4 (by decide) ?_
  refine V_iadd 7 rfl dX10_feed_6 ?_
  refine V_sipush 10 rfl (v := 400) dX10_feed_7 (by decide) ?_
  refine V_icmp_le 13 15 rfl dX10_feed_10 (by decide) (fun c => ?_) (fun c => ?_)
  · have h := zpos c h
    refine V_aload_n 16 rfl 0 dX10_feed_15 rfl rfl ?_
    refine V_iload_n 17 rfl 1 dX10_feed_16 rfl rfl ?_
    obtain ⟨x1, h1, h⟩ := zbd h
    refine V_cV 20 rfl 0 [zI v1] [] dX10_feed_17 cv_X10_67 (ctX10_puts (Nat.le_refl 0) h1) (Nat.le_trans (by decide) hd) rfl rfl (Nat.le_of_ble_eq_true rfl) zokn rfl ?_
    refine V_aload_n 21 rfl 0 dX10_feed_20 rfl rfl ?_
    refine V_iload_n 22 rfl 2 dX10_feed_21 rfl rfl ?_
    obtain ⟨x2, h1, h⟩ := zbd h
    refine V_cV 25 rfl 0 [zI v2] [] dX10_feed_22 cv_X10_67 (ctX10_puts (Nat.le_refl 0) h1) (Nat.le_trans (by decide) hd) rfl rfl (Nat.le_of_ble_eq_true rfl) zokn rfl ?_
    refine V_aload_n 26 rfl 0 dX10_feed_25 rfl rfl ?_
    refine V_iload_n 27 rfl 3 dX10_feed_26 rfl rfl ?_
    obtain ⟨x3, h1, h⟩ := zbd h
    refine V_cV 30 rfl 0 [zI v3] [] dX10_feed_27 cv_X10_67 (ctX10_puts (Nat.le_refl 0) h1) (Nat.le_trans (by decide) hd) rfl rfl (Nat.le_of_ble_eq_true rfl) zokn rfl ?_
    refine V_aload_n 31 rfl 0 dX10_feed_30 rfl rfl ?_
    refine V_iload 33 rfl dX10_feed_31 rfl ?_
    obtain ⟨x4, h1, h⟩ := zbd h
    refine V_cV 36 rfl 0 [zI v4] [] dX10_feed_33 cv_X10_67 (ctX10_puts (Nat.le_refl 0) h1) (Nat.le_trans (by decide) hd) rfl rfl (Nat.le_of_ble_eq_true rfl) zokn rfl ?_
    refine V_aload_n 37 rfl 0 dX10_feed_36 rfl rfl ?_
    refine V_iload 39 rfl dX10_feed_37 rfl ?_
    obtain ⟨x5, h1, h⟩ := zbd h
    refine V_cV 42 rfl 0 [zI v5] [] dX10_feed_39 cv_X10_67 (ctX10_puts (Nat.le_refl 0) h1) (Nat.le_trans (by decide) hd) rfl rfl (Nat.le_of_ble_eq_true rfl) zokn rfl ?_
    refine V_aload_n 43 rfl 0 dX10_feed_42 rfl rfl ?_
    refine V_geti 46 rfl dX10_feed_43 fl_X10_63 rfl ?_
    exact V_iret dX10_feed_46 rfl (hQ (((gi x5 10 0 7), x5)) (zinj h))
  · have h := zneg c h
    refine V_iconst 14 rfl (v := (-1)) dX10_feed_13 (by decide) ?_
    exact V_iret dX10_feed_14 rfl (hQ (((-1), mm)) (zinj h))
theorem ctX10_feed {E : zE} {d : Nat} (hd : 1 ≤ d) {v1 : Int32} {v2 : Int32} {v3 : Int32} {v4 : Int32} {v5 : Int32} {mm : zM} {o : (Int32 × zM)} (h : fX10_feed v1 v2 v3 v4 v5 mm = some o) : zOC E yX10_feed cX10_feed 6 (some .int) d [zK 10 0, zI v1, zI v2, zI v3, zI v4, zI v5] mm (some (zI o.1)) o.2 :=
  zCT_of (by decide) (Nat.le_of_ble_eq_true rfl) (zk_k (zk_i (zk_i (zk_i (zk_i (zk_i zk_0)))))) rfl (wX10_feed hd h (fun r e => ⟨by rw [e], by rw [e]⟩))
def fX10_end (v1 : Int32) (mm : zM) : Option (Int32 × zM) :=
  if v1 < 0 then (some (((-1), mm))) else (if v1 ≤ (gi mm 10 0 7) then (some ((v1, (wi mm 10 0 7 v1)))) else (some (((-1), mm))))
theorem wX10_end {E : zE} {d : Nat} (hd : 0 ≤ d) {Q : Option zV → zM → Prop} {v1 : Int32} {mm : zM} {o : (Int32 × zM)} (h : fX10_end v1 mm = some o) (hQ : ∀ r, o = r → Q (some (zI r.1)) r.2) : V E RX10 cX10_end 2 (some .int) d Q 0 [some (zK 10 0), some (zI v1)] [] mm := by
  unfold fX10_end at h
  refine V_iload_n 1 rfl 1 dX10_end_0 rfl rfl ?_
  refine V_if_lt 4 12 rfl dX10_end_1 (by decide) (fun c => ?_) (fun c => ?_)
  · have h := zpos c h
    refine V_iconst 13 rfl (v := (-1)) dX10_end_12 (by decide) ?_
    exact V_iret dX10_end_13 rfl (hQ (((-1), mm)) (zinj h))
  · have h := zneg c h
    refine V_iload_n 5 rfl 1 dX10_end_4 rfl rfl ?_
    refine V_aload_n 6 rfl 0 dX10_end_5 rfl rfl ?_
    refine V_geti 9 rfl dX10_end_6 fl_X10_63 rfl ?_
    refine V_icmp_le 12 14 rfl dX10_end_9 (by decide) (fun c => ?_) (fun c => ?_)
    · have h := zpos c h
      refine V_aload_n 15 rfl 0 dX10_end_14 rfl rfl ?_
      refine V_iload_n 16 rfl 1 dX10_end_15 rfl rfl ?_
      refine V_puti 19 rfl dX10_end_16 fw_X10_63 rfl rfl rfl ?_
      refine V_iload_n 20 rfl 1 dX10_end_19 rfl rfl ?_
      exact V_iret dX10_end_20 rfl (hQ ((v1, (wi mm 10 0 7 v1))) (zinj h))
    · have h := zneg c h
      refine V_iconst 13 rfl (v := (-1)) dX10_end_12 (by decide) ?_
      exact V_iret dX10_end_13 rfl (hQ (((-1), mm)) (zinj h))
theorem ctX10_end {E : zE} {d : Nat} (hd : 0 ≤ d) {v1 : Int32} {mm : zM} {o : (Int32 × zM)} (h : fX10_end v1 mm = some o) : zOC E yX10_end cX10_end 2 (some .int) d [zK 10 0, zI v1] mm (some (zI o.1)) o.2 :=
  zCT_of (by decide) (Nat.le_of_ble_eq_true rfl) (zk_k (zk_i zk_0)) rfl (wX10_end hd h (fun r e => ⟨by rw [e], by rw [e]⟩))
def fX10_sign (mm : zM) : Option Int32 :=
  if (gi mm 10 0 7) ≤ (gi mm 10 0 8) then (some ((-1))) else (zob (zin ((gi mm 10 0 8)) 400) (some ((((gi mm 43 0 (zn ((gi mm 10 0 8))))) &&& 255))))
theorem wX10_sign {E : zE} {d : Nat} (hd : 0 ≤ d) {Q : Option zV → zM → Prop} {mm : zM} {o : Int32} (h : fX10_sign mm = some o) (hQ : ∀ r, o = r → Q (some (zI r)) mm) : V E RX10 cX10_sign 1 (some .int) d Q 0 [some (zK 10 0)] [] mm := by
  unfold fX10_sign at h
  refine V_aload_n 1 rfl 0 dX10_sign_0 rfl rfl ?_
  refine V_geti 4 rfl dX10_sign_1 fl_X10_71 rfl ?_
  refine V_aload_n 5 rfl 0 dX10_sign_4 rfl rfl ?_
  refine V_geti 8 rfl dX10_sign_5 fl_X10_63 rfl ?_
  refine V_icmp_ge 11 27 rfl dX10_sign_8 (by decide) (fun c => ?_) (fun c => ?_)
  · have h := zpos c h
    refine V_iconst 28 rfl (v := (-1)) dX10_sign_27 (by decide) ?_
    exact V_iret dX10_sign_28 rfl (hQ ((-1)) (zinj h))
  · have h := zneg c h
    refine V_aload_n 12 rfl 0 dX10_sign_11 rfl rfl ?_
    refine V_getr 15 rfl 43 0 dX10_sign_12 fl_X10_28 rfl rfl rfl ?_
    refine V_aload_n 16 rfl 0 dX10_sign_15 rfl rfl ?_
    refine V_geti 19 rfl dX10_sign_16 fl_X10_71 rfl ?_
    obtain ⟨hi, h⟩ := zobd h
    refine V_bald 20 rfl dX10_sign_19 rfl hi ?_
    refine V_sipush 23 rfl (v := 255) dX10_sign_20 (by decide) ?_
    refine V_iand 24 rfl dX10_sign_23 ?_
    refine V_goto 28 dX10_sign_24 (by decide) ?_
    exact V_iret dX10_sign_28 rfl (hQ ((((gi mm 43 0 (zn ((gi mm 10 0 8))))) &&& 255)) (zinj h))
theorem ctX10_sign {E : zE} {d : Nat} (hd : 0 ≤ d) {mm : zM} {o : Int32} (h : fX10_sign mm = some o) : zOC E yX10_sign cX10_sign 1 (some .int) d [zK 10 0] mm (some (zI o)) mm :=
  zCT_of (by decide) (Nat.le_of_ble_eq_true rfl) (zk_k zk_0) rfl (wX10_sign hd h (fun r e => ⟨by rw [e], rfl⟩))
def fX10_next_L0 (s : zM) : Option (zM ⊕ (zM ⊕ Empty)) :=
  (fX10_sign s).bind (fun x1 => if x1 = 32 then (some (.inl (wi s 10 0 8 ((((gi s 10 0 8)) + 1))))) else (some (.inr (.inl s))))
def fX10_next (mm : zM) : Option (Int32 × zM) :=
  (zloop (fX10_next_L0) zF mm).bind (fun o5 => zcase o5 (fun y2 => (fX10_sign y2).bind (fun x4 => some ((x4, y2)))) (fun r3 => r3.elim))
theorem wX10_next_L0 {E : zE} {d : Nat} (hd : 1 ≤ d) {Q : Option zV → zM → Prop} {n : Nat} {s : zM} {o : zM ⊕ Empty} (h : zloop (fX10_next_L0) n s = some o) (he : ∀ y : zM, o = .inl y → V E RX10 cX10_next 1 (some .int) d Q 22 [some (zK 10 0)] [] y) : V E RX10 cX10_next 1 (some .int) d Q 0 [some (zK 10 0)] [] s := by
  induction n generalizing s with
  | zero => exact (zloop_0 h).elim
  | succ n ih =>
    obtain ⟨o1, h1, hc1, he1⟩ := zloop_s h
    have kc : ∀ s' : zM, o1 = .inl s' → V E RX10 cX10_next 1 (some .int) d Q 0 [some (zK 10 0)] [] s' := fun s' e => ih (hc1 s' e)
    have ke : ∀ y : zM, o1 = .inr (.inl y) → V E RX10 cX10_next 1 (some .int) d Q 22 [some (zK 10 0)] [] y := fun y e => he y (he1 _ e)
    clear h hc1 he1 ih
    have h := h1
    clear h1
    unfold fX10_next_L0 at h
    refine V_aload_n 1 rfl 0 dX10_next_0 rfl rfl ?_
    obtain ⟨x1, h1, h⟩ := zbd h
    refine V_cV 4 rfl 0 [] [] dX10_next_1 cv_X10_74 (ctX10_sign (Nat.le_refl 0) h1) (Nat.le_trans (by decide) hd) rfl rfl (Nat.le_of_ble_eq_true rfl) zoki rfl ?_
    refine V_bipush 6 rfl (v := 32) dX10_next_4 (by decide) ?_
    refine V_icmp_ne 9 22 rfl dX10_next_6 (by decide) (fun c => ?_) (fun c => ?_)
    · have h := zneg c h
      exact ke s (zinj h)
    · have h := zpos c h
      refine V_aload_n 10 rfl 0 dX10_next_9 rfl rfl ?_
      refine V_dup 11 rfl dX10_next_10 rfl ?_
      refine V_geti 14 rfl dX10_next_11 fl_X10_71 rfl ?_
      refine V_iconst 15 rfl (v := 1) dX10_next_14 (by decide) ?_
      refine V_iadd 16 rfl dX10_next_15 ?_
      refine V_puti 19 rfl dX10_next_16 fw_X10_71 rfl rfl rfl ?_
      refine V_goto 0 dX10_next_19 (by decide) ?_
      exact kc (wi s 10 0 8 ((((gi s 10 0 8)) + 1))) (zinj h)
theorem wX10_next {E : zE} {d : Nat} (hd : 1 ≤ d) {Q : Option zV → zM → Prop} {mm : zM} {o : (Int32 × zM)} (h : fX10_next mm = some o) (hQ : ∀ r, o = r → Q (some (zI r.1)) r.2) : V E RX10 cX10_next 1 (some .int) d Q 0 [some (zK 10 0)] [] mm := by
  unfold fX10_next at h
  obtain ⟨o5, h1, h⟩ := zbd h
  refine wX10_next_L0 hd h1 (fun y2 e => ?_)
  have h := zcl_ e h
  refine V_aload_n 23 rfl 0 dX10_next_22 rfl rfl ?_
  obtain ⟨x4, h1, h⟩ := zbd h
  refine V_cV 26 rfl 0 [] [] dX10_next_23 cv_X10_74 (ctX10_sign (Nat.le_refl 0) h1) (Nat.le_trans (by decide) hd) rfl rfl (Nat.le_of_ble_eq_true rfl) zoki rfl ?_
  exact V_iret dX10_next_26 rfl (hQ ((x4, y2)) (zinj h))
theorem ctX10_next {E : zE} {d : Nat} (hd : 1 ≤ d) {mm : zM} {o : (Int32 × zM)} (h : fX10_next mm = some o) : zOC E yX10_next cX10_next 1 (some .int) d [zK 10 0] mm (some (zI o.1)) o.2 :=
  zCT_of (by decide) (Nat.le_of_ble_eq_true rfl) (zk_k zk_0) rfl (wX10_next hd h (fun r e => ⟨by rw [e], by rw [e]⟩))
def fX10_in (v0 : Int32) (v1 : Int32) (v2 : Int32) (mm : zM) : Option Int32 :=
  if v0 < v1 then (some 0) else (if v2 < v0 then (some 0) else (some 1))
theorem wX10_in {E : zE} {d : Nat} (hd : 0 ≤ d) {Q : Option zV → zM → Prop} {v0 : Int32} {v1 : Int32} {v2 : Int32} {mm : zM} {o : Int32} (h : fX10_in v0 v1 v2 mm = some o) (hQ : ∀ r, o = r → Q (some (zI r)) mm) : V E RX10 cX10_in 3 (some .boolean) d Q 0 [some (zI v0), some (zI v1), some (zI v2)] [] mm := by
  unfold fX10_in at h
  refine V_iload_n 1 rfl 0 dX10_in_0 rfl rfl ?_
  refine V_iload_n 2 rfl 1 dX10_in_1 rfl rfl ?_
  refine V_icmp_lt 5 14 rfl dX10_in_2 (by decide) (fun c => ?_) (fun c => ?_)
  · have h := zpos c h
    refine V_iconst 15 rfl (v := 0) dX10_in_14 (by decide) ?_
    exact V_zret dX10_in_15 rfl rfl (hQ 0 (zinj h))
  · have h := zneg c h
    refine V_iload_n 6 rfl 0 dX10_in_5 rfl rfl ?_
    refine V_iload_n 7 rfl 2 dX10_in_6 rfl rfl ?_
    refine V_icmp_gt 10 14 rfl dX10_in_7 (by decide) (fun c => ?_) (fun c => ?_)
    · have h := zpos c h
      refine V_iconst 15 rfl (v := 0) dX10_in_14 (by decide) ?_
      exact V_zret dX10_in_15 rfl rfl (hQ 0 (zinj h))
    · have h := zneg c h
      refine V_iconst 11 rfl (v := 1) dX10_in_10 (by decide) ?_
      refine V_goto 15 dX10_in_11 (by decide) ?_
      exact V_zret dX10_in_15 rfl rfl (hQ 1 (zinj h))
theorem ctX10_in {E : zE} {d : Nat} (hd : 0 ≤ d) {v0 : Int32} {v1 : Int32} {v2 : Int32} {mm : zM} {o : Int32} (h : fX10_in v0 v1 v2 mm = some o) : zOC E yX10_in cX10_in 3 (some .boolean) d [zI v0, zI v1, zI v2] mm (some (zI o)) mm :=
  zCT_of (by decide) (Nat.le_of_ble_eq_true rfl) (zk_i (zk_i (zk_i zk_0))) rfl (wX10_in hd h (fun r e => ⟨by rw [e], rfl⟩))
def fX10_wordLong_L7 (mm : zM) (s : Int32) : Option (Int32 ⊕ (Int32 ⊕ Empty)) :=
  if (gi mm 10 0 7) ≤ (((gi mm 10 0 8)) + s) then (some (.inr (.inl s))) else (zob (zin ((((gi mm 10 0 8)) + s)) 400) ((fX10_in ((gi mm 43 0 (zn ((((gi mm 10 0 8)) + s))))) 97 122 mm).bind (fun x2 => if x2 = 0 then (some (.inr (.inl s))) else (some (.inl (s + 1))))))
def fX10_wordLong (mm : zM) : Option (Int32 × zM) :=
  (fX10_next mm).bind (fun x1 => (zloop (fX10_wordLong_L7 x1.2) zF 0).bind (fun o5 => zcase o5 (fun y3 => some ((y3, x1.2))) (fun r4 => r4.elim)))
theorem wX10_wordLong_L7 {E : zE} {d : Nat} (hd : 2 ≤ d) {Q : Option zV → zM → Prop} {mm : zM} {n : Nat} {s : Int32} {o : Int32 ⊕ Empty} (h : zloop (fX10_wordLong_L7 mm) n s = some o) (he : ∀ y : Int32, o = .inl y → V E RX10 cX10_wordLong 2 (some .int) d Q 47 [none, some (zI y)] [] mm) : V E RX10 cX10_wordLong 2 (some .int) d Q 7 [some (zK 10 0), some (zI s)] [] mm := by
  induction n generalizing s with
  | zero => exact (zloop_0 h).elim
  | succ n ih =>
    obtain ⟨o1, h1, hc1, he1⟩ := zloop_s h
    have kc : ∀ s' : Int32, o1 = .inl s' → V E RX10 cX10_wordLong 2 (some .int) d Q 7 [some (zK 10 0), some (zI s')] [] mm := fun s' e => ih (hc1 s' e)
    have ke : ∀ y : Int32, o1 = .inr (.inl y) → V E RX10 cX10_wordLong 2 (some .int) d Q 47 [none, some (zI y)] [] mm := fun y e => he y (he1 _ e)
    clear h hc1 he1 ih
    have h := h1
    clear h1
    unfold fX10_wordLong_L7 at h
    refine V_aload_n 8 rfl 0 dX10_wordLong_7 rfl rfl ?_
    refine V_geti 11 rfl dX10_wordLong_8 fl_X10_71 rfl ?_
    refine V_iload_n 12 rfl 1 dX10_wordLong_11 rfl rfl ?_
    refine V_iadd 13 rfl dX10_wordLong_12 ?_
    refine V_aload_n 14 rfl 0 dX10_wordLong_13 rfl rfl ?_
    refine V_geti 17 rfl dX10_wordLong_14 fl_X10_63 rfl ?_
    refine V_icmp_ge 20 47 rfl dX10_wordLong_17 (by decide) (fun c => ?_) (fun c => ?_)
    · have h := zpos c h
      exact V_w (zsub_n (zsub_s zsub_0)) (ke s (zinj h))
    · have h := zneg c h
      refine V_aload_n 21 rfl 0 dX10_wordLong_20 rfl rfl ?_
      refine V_getr 24 rfl 43 0 dX10_wordLong_21 fl_X10_28 rfl rfl rfl ?_
      refine V_aload_n 25 rfl 0 dX10_wordLong_24 rfl rfl ?_
      refine V_geti 28 rfl dX10_wordLong_25 fl_X10_71 rfl ?_
      refine V_iload_n 29 rfl 1 dX10_wordLong_28 rfl rfl ?_
      refine V_iadd 30 rfl dX10_wordLong_29 ?_
      obtain ⟨hi, h⟩ := zobd h
      refine V_bald 31 rfl dX10_wordLong_30 rfl hi ?_
      refine V_bipush 33 rfl (v := 97) dX10_wordLong_31 (by decide) ?_
      refine V_bipush 35 rfl (v := 122) dX10_wordLong_33 (by decide) ?_
      obtain ⟨x2, h1, h⟩ := zbd h
      refine V_cS 38 rfl 0 [zI (gi mm 43 0 (zn ((((gi mm 10 0 8)) + s)))), zI 97, zI 122] [] dX10_wordLong_35 cs_X10_88 (ctX10_in (Nat.le_refl 0) h1) (Nat.le_trans (by decide) hd) rfl rfl (Nat.le_of_ble_eq_true rfl) zoki rfl ?_
      refine V_if_eq 41 47 rfl dX10_wordLong_38 (by decide) (fun c => ?_) (fun c => ?_)
      · have h := zpos c h
        exact V_w (zsub_n (zsub_s zsub_0)) (ke s (zinj h))
      · have h := zneg c h
        refine V_iinc 44 rfl (s + 1) (L' := [some (zK 10 0), some (zI (s + 1))]) dX10_wordLong_41 rfl rfl (by decide) rfl ?_
        refine V_goto 7 dX10_wordLong_44 (by decide) ?_
        exact kc (s + 1) (zinj h)
theorem wX10_wordLong {E : zE} {d : Nat} (hd : 2 ≤ d) {Q : Option zV → zM → Prop} {mm : zM} {o : (Int32 × zM)} (h : fX10_wordLong mm = some o) (hQ : ∀ r, o = r → Q (some (zI r.1)) r.2) : V E RX10 cX10_wordLong 2 (some .int) d Q 0 [some (zK 10 0), none] [] mm := by
  unfold fX10_wordLong at h
  refine V_aload_n 1 rfl 0 dX10_wordLong_0 rfl rfl ?_
  obtain ⟨x1, h1, h⟩ := zbd h
  refine V_cV 4 rfl 1 [] [] dX10_wordLong_1 cv_X10_85 (ctX10_next (Nat.le_refl 1) h1) (Nat.le_trans (by decide) hd) rfl rfl (Nat.le_of_ble_eq_true rfl) zoki rfl ?_
  refine V_pop 5 rfl dX10_wordLong_4 rfl ?_
  refine V_iconst 6 rfl (v := 0) dX10_wordLong_5 (by decide) ?_
  refine V_istore_n 7 rfl 1 (L' := [some (zK 10 0), some (zI 0)]) dX10_wordLong_6 rfl (by decide) rfl ?_
  obtain ⟨o5, h1, h⟩ := zbd h
  refine wX10_wordLong_L7 hd h1 (fun y3 e => ?_)
  have h := zcl_ e h
  refine V_iload_n 48 rfl 1 dX10_wordLong_47 rfl rfl ?_
  exact V_iret dX10_wordLong_48 rfl (hQ ((y3, x1.2)) (zinj h))
theorem ctX10_wordLong {E : zE} {d : Nat} (hd : 2 ≤ d) {mm : zM} {o : (Int32 × zM)} (h : fX10_wordLong mm = some o) : zOC E yX10_wordLong cX10_wordLong 2 (some .int) d [zK 10 0] mm (some (zI o.1)) o.2 :=
  zCT_of (by decide) (Nat.le_of_ble_eq_true rfl) (zk_k zk_0) rfl (wX10_wordLong hd h (fun r e => ⟨by rw [e], by rw [e]⟩))
def fX10_isRight (mm : zM) : Option Int32 :=
  if (gi mm 10 0 9) = (-1) then (some 1) else (some 0)
theorem wX10_isRight {E : zE} {d : Nat} (hd : 0 ≤ d) {Q : Option zV → zM → Prop} {mm : zM} {o : Int32} (h : fX10_isRight mm = some o) (hQ : ∀ r, o = r → Q (some (zI r)) mm) : V E RX10 cX10_isRight 1 (some .boolean) d Q 0 [some (zK 10 0)] [] mm := by
  unfold fX10_isRight at h
  refine V_aload_n 1 rfl 0 dX10_isRight_0 rfl rfl ?_
  refine V_geti 4 rfl dX10_isRight_1 fl_X10_78 rfl ?_
  refine V_iconst 5 rfl (v := (-1)) dX10_isRight_4 (by decide) ?_
  refine V_icmp_ne 8 12 rfl dX10_isRight_5 (by decide) (fun c => ?_) (fun c => ?_)
  · have h := zneg c h
    refine V_iconst 13 rfl (v := 0) dX10_isRight_12 (by decide) ?_
    exact V_zret dX10_isRight_13 rfl rfl (hQ 0 (zinj h))
  · have h := zpos c h
    refine V_iconst 9 rfl (v := 1) dX10_isRight_8 (by decide) ?_
    refine V_goto 13 dX10_isRight_9 (by decide) ?_
    exact V_zret dX10_isRight_13 rfl rfl (hQ 1 (zinj h))
theorem ctX10_isRight {E : zE} {d : Nat} (hd : 0 ≤ d) {mm : zM} {o : Int32} (h : fX10_isRight mm = some o) : zOC E yX10_isRight cX10_isRight 1 (some .boolean) d [zK 10 0] mm (some (zI o)) mm :=
  zCT_of (by decide) (Nat.le_of_ble_eq_true rfl) (zk_k zk_0) rfl (wX10_isRight hd h (fun r e => ⟨by rw [e], rfl⟩))
def fX10_takes_L29 (v1 : Nat) (v2 : Int32) (mm : zM) (s : (Int32 × Int32)) : Option ((Int32 × Int32) ⊕ (Int32 ⊕ Empty)) :=
  if v2 ≤ s.2 then (some (.inr (.inl s.1))) else (if s.1 = 0 then (some (.inr (.inl s.1))) else (zob (zin ((((gi mm 10 0 8)) + s.2)) 400) (zob (zin s.2 (zlen.getD v1 0)) (if (gi mm 43 0 (zn ((((gi mm 10 0 8)) + s.2)))) = (zschr v1 s.2) then (some (.inl (1, (s.2 + 1)))) else (some (.inl (0, (s.2 + 1))))))))
def fX10_takes_J86 (v3 : Int32) (s0 : Int32) (s1 : Int32) (mm : zM) : Option (Int32 × zM) :=
  zob (zbo v3) (some ((v3, (wi mm 10 0 8 ((s1 + s0))))))
def fX10_takes_J25 (v1 : Nat) (v2 : Int32) (s0 : Int32) (mm : zM) : Option (Int32 × zM) :=
  (zloop (fX10_takes_L29 v1 v2 mm) zF (s0, 0)).bind (fun o5 => zcase o5 (fun y3 => if y3 = 0 then (fX10_takes_J86 y3 0 ((gi mm 10 0 8)) mm) else (fX10_takes_J86 y3 v2 ((gi mm 10 0 8)) mm)) (fun r4 => r4.elim))
def fX10_takes_J24 (v1 : Nat) (v2 : Int32) (mm : zM) : Option (Int32 × zM) :=
  fX10_takes_J25 v1 v2 0 mm
def fX10_takes (v1 : Nat) (mm : zM) : Option (Int32 × zM) :=
  (fX10_wordLong mm).bind (fun x1 => (fX10_isRight x1.2).bind (fun x2 => if x2 = 0 then (fX10_takes_J24 v1 x1.1 x1.2) else (if x1.1 = (zslen v1) then (fX10_takes_J25 v1 x1.1 1 x1.2) else (fX10_takes_J24 v1 x1.1 x1.2))))
theorem wX10_takes_L29 {E : zE} {d : Nat} (hd : 6 ≤ d) {Q : Option zV → zM → Prop} {v1 : Nat} {v2 : Int32} {mm : zM} {n : Nat} {s : (Int32 × Int32)} {o : Int32 ⊕ Empty} (h : zloop (fX10_takes_L29 v1 v2 mm) n s = some o) (he : ∀ y : Int32, o = .inl y → V E RX10 cX10_takes 5 (some .boolean) d Q 72 [some (zK 10 0), none, some (zI v2), some (zI y), none] [] mm) : V E RX10 cX10_takes 5 (some .boolean) d Q 29 [some (zK 10 0), some (zK 61 v1), some (zI v2), some (zI s.1), some (zI s.2)] [] mm := by
  induction n generalizing s with
  | zero => exact (zloop_0 h).elim
  | succ n ih =>
    obtain ⟨o1, h1, hc1, he1⟩ := zloop_s h
    have kc : ∀ s' : (Int32 × Int32), o1 = .inl s' → V E RX10 cX10_takes 5 (some .boolean) d Q 29 [some (zK 10 0), some (zK 61 v1), some (zI v2), some (zI s'.1), some (zI s'.2)] [] mm := fun s' e => ih (hc1 s' e)
    have ke : ∀ y : Int32, o1 = .inr (.inl y) → V E RX10 cX10_takes 5 (some .boolean) d Q 72 [some (zK 10 0), none, some (zI v2), some (zI y), none] [] mm := fun y e => he y (he1 _ e)
    clear h hc1 he1 ih
    have h := h1
    clear h1
    unfold fX10_takes_L29 at h
    refine V_iload 31 rfl dX10_takes_29 rfl ?_
    refine V_iload_n 32 rfl 2 dX10_takes_31 rfl rfl ?_
    refine V_icmp_ge 35 72 rfl dX10_takes_32 (by decide) (fun c => ?_) (fun c => ?_)
    · have h := zpos c h
      exact V_w (zsub_s (zsub_n (zsub_s (zsub_s (zsub_n zsub_0))))) (ke s.1 (zinj h))
    · have h := zneg c h
      refine V_iload_n 36 rfl 3 dX10_takes_35 rfl rfl ?_
      refine V_if_eq 39 72 rfl dX10_takes_36 (by decide) (fun c => ?_) (fun c => ?_)
      · have h := zpos c h
        exact V_w (zsub_s (zsub_n (zsub_s (zsub_s (zsub_n zsub_0))))) (ke s.1 (zinj h))
      · have h := zneg c h
        refine V_aload_n 40 rfl 0 dX10_takes_39 rfl rfl ?_
        refine V_getr 43 rfl 43 0 dX10_takes_40 fl_X10_28 rfl rfl rfl ?_
        refine V_aload_n 44 rfl 0 dX10_takes_43 rfl rfl ?_
        refine V_geti 47 rfl dX10_takes_44 fl_X10_71 rfl ?_
        refine V_iload 49 rfl dX10_takes_47 rfl ?_
        refine V_iadd 50 rfl dX10_takes_49 ?_
        obtain ⟨hi, h⟩ := zobd h
        refine V_bald 51 rfl dX10_takes_50 rfl hi ?_
        refine V_aload_n 52 rfl 1 dX10_takes_51 rfl rfl ?_
        refine V_iload 54 rfl dX10_takes_52 rfl ?_
        obtain ⟨hi, h⟩ := zobd h
        refine V_strchr 57 rfl dX10_takes_54 tb_1231 hi (Nat.le_trans (by decide) hd) (Nat.le_of_ble_eq_true rfl) ?_
        refine V_icmp_ne 60 64 rfl dX10_takes_57 (by decide) (fun c => ?_) (fun c => ?_)
        · have h := zneg c h
          refine V_iconst 65 rfl (v := 0) dX10_takes_64 (by decide) ?_
          refine V_istore_n 66 rfl 3 (L' := [some (zK 10 0), some (zK 61 v1), some (zI v2), some (zI 0), some (zI s.2)]) dX10_takes_65 rfl (by decide) rfl ?_
          refine V_iinc 69 rfl (s.2 + 1) (L' := [some (zK 10 0), some (zK 61 v1), some (zI v2), some (zI 0), some (zI (s.2 + 1))]) dX10_takes_66 rfl rfl (by decide) rfl ?_
          refine V_goto 29 dX10_takes_69 (by decide) ?_
          exact kc (0, (s.2 + 1)) (zinj h)
        · have h := zpos c h
          refine V_iconst 61 rfl (v := 1) dX10_takes_60 (by decide) ?_
          refine V_goto 65 dX10_takes_61 (by decide) ?_
          refine V_istore_n 66 rfl 3 (L' := [some (zK 10 0), some (zK 61 v1), some (zI v2), some (zI 1), some (zI s.2)]) dX10_takes_65 rfl (by decide) rfl ?_
          refine V_iinc 69 rfl (s.2 + 1) (L' := [some (zK 10 0), some (zK 61 v1), some (zI v2), some (zI 1), some (zI (s.2 + 1))]) dX10_takes_66 rfl rfl (by decide) rfl ?_
          refine V_goto 29 dX10_takes_69 (by decide) ?_
          exact kc (1, (s.2 + 1)) (zinj h)
theorem wX10_takes_J86 {E : zE} {d : Nat} (hd : 6 ≤ d) {Q : Option zV → zM → Prop} {v3 : Int32} {s0 : Int32} {s1 : Int32} {mm : zM} {o : (Int32 × zM)} (h : fX10_takes_J86 v3 s0 s1 mm = some o) (hQ : ∀ r, o = r → Q (some (zI r.1)) r.2) : V E RX10 cX10_takes 5 (some .boolean) d Q 86 [none, none, none, some (zI v3), none] [zI s0, zI s1, zK 10 0] mm := by
  unfold fX10_takes_J86 at h
  refine V_iadd 87 rfl dX10_takes_86 ?_
  refine V_puti 90 rfl dX10_takes_87 fw_X10_71 rfl rfl rfl ?_
  refine V_iload_n 91 rfl 3 dX10_takes_90 rfl rfl ?_
  obtain ⟨hi, h⟩ := zobd h
  exact V_zret dX10_takes_91 rfl (zbo_n hi) (hQ ((v3, (wi mm 10 0 8 ((s1 + s0))))) (zinj h))
theorem wX10_takes_J25 {E : zE} {d : Nat} (hd : 6 ≤ d) {Q : Option zV → zM → Prop} {v1 : Nat} {v2 : Int32} {s0 : Int32} {mm : zM} {o : (Int32 × zM)} (h : fX10_takes_J25 v1 v2 s0 mm = some o) (hQ : ∀ r, o = r → Q (some (zI r.1)) r.2) : V E RX10 cX10_takes 5 (some .boolean) d Q 25 [some (zK 10 0), some (zK 61 v1), some (zI v2), none, none] [zI s0] mm := by
  unfold fX10_takes_J25 at h
  refine V_istore_n 26 rfl 3 (L' := [some (zK 10 0), some (zK 61 v1), some (zI v2), some (zI s0), none]) dX10_takes_25 rfl (by decide) rfl ?_
  refine V_iconst 27 rfl (v := 0) dX10_takes_26 (by decide) ?_
  refine V_istore 29 rfl (L' := [some (zK 10 0), some (zK 61 v1), some (zI v2), some (zI s0), some (zI 0)]) dX10_takes_27 (by decide) rfl ?_
  obtain ⟨o5, h1, h⟩ := zbd h
  refine wX10_takes_L29 hd h1 (fun y3 e => ?_)
  have h := zcl_ e h
  refine V_aload_n 73 rfl 0 dX10_takes_72 rfl rfl ?_
  refine V_dup 74 rfl dX10_takes_73 rfl ?_
  refine V_geti 77 rfl dX10_takes_74 fl_X10_71 rfl ?_
  refine V_iload_n 78 rfl 3 dX10_takes_77 rfl rfl ?_
  refine V_if_eq 81 85 rfl dX10_takes_78 (by decide) (fun c => ?_) (fun c => ?_)
  · have h := zpos c h
    refine V_iconst 86 rfl (v := 0) dX10_takes_85 (by decide) ?_
    exact V_w (zsub_n (zsub_s (zsub_n (zsub_s (zsub_s zsub_0))))) (wX10_takes_J86 hd h hQ)
  · have h := zneg c h
    refine V_iload_n 82 rfl 2 dX10_takes_81 rfl rfl ?_
    refine V_goto 86 dX10_takes_82 (by decide) ?_
    exact V_w (zsub_n (zsub_s (zsub_n (zsub_s (zsub_s zsub_0))))) (wX10_takes_J86 hd h hQ)
theorem wX10_takes_J24 {E : zE} {d : Nat} (hd : 6 ≤ d) {Q : Option zV → zM → Prop} {v1 : Nat} {v2 : Int32} {mm : zM} {o : (Int32 × zM)} (h : fX10_takes_J24 v1 v2 mm = some o) (hQ : ∀ r, o = r → Q (some (zI r.1)) r.2) : V E RX10 cX10_takes 5 (some .boolean) d Q 24 [some (zK 10 0), some (zK 61 v1), some (zI v2), none, none] [] mm := by
  unfold fX10_takes_J24 at h
  refine V_iconst 25 rfl (v := 0) dX10_takes_24 (by decide) ?_
  exact wX10_takes_J25 hd h hQ
theorem wX10_takes {E : zE} {d : Nat} (hd : 6 ≤ d) {Q : Option zV → zM → Prop} {v1 : Nat} {mm : zM} {o : (Int32 × zM)} (h : fX10_takes v1 mm = some o) (hQ : ∀ r, o = r → Q (some (zI r.1)) r.2) : V E RX10 cX10_takes 5 (some .boolean) d Q 0 [some (zK 10 0), some (zK 61 v1), none, none, none] [] mm := by
  unfold fX10_takes at h
  refine V_aload_n 1 rfl 0 dX10_takes_0 rfl rfl ?_
  obtain ⟨x1, h1, h⟩ := zbd h
  refine V_cV 4 rfl 2 [] [] dX10_takes_1 cv_X10_92 (ctX10_wordLong (Nat.le_refl 2) h1) (Nat.le_trans (by decide) hd) rfl rfl (Nat.le_of_ble_eq_true rfl) zoki rfl ?_
  refine V_istore_n 5 rfl 2 (L' := [some (zK 10 0), some (zK 61 v1), some (zI x1.1), none, none]) dX10_takes_4 rfl (by decide) rfl ?_
  refine V_aload_n 6 rfl 0 dX10_takes_5 rfl rfl ?_
  obtain ⟨x2, h1, h⟩ := zbd h
  refine V_cV 9 rfl 0 [] [] dX10_takes_6 cv_X10_81 (ctX10_isRight (Nat.le_refl 0) h1) (Nat.le_trans (by decide) hd) rfl rfl (Nat.le_of_ble_eq_true rfl) zoki rfl ?_
  refine V_if_eq 12 24 rfl dX10_takes_9 (by decide) (fun c => ?_) (fun c => ?_)
  · have h := zpos c h
    exact wX10_takes_J24 hd h hQ
  · have h := zneg c h
    refine V_iload_n 13 rfl 2 dX10_takes_12 rfl rfl ?_
    refine V_aload_n 14 rfl 1 dX10_takes_13 rfl rfl ?_
    refine V_strlen 17 rfl dX10_takes_14 tb_1230 (Nat.le_trans (by decide) hd) (Nat.le_of_ble_eq_true rfl) ?_
    refine V_icmp_ne 20 24 rfl dX10_takes_17 (by decide) (fun c => ?_) (fun c => ?_)
    · have h := zneg c h
      exact wX10_takes_J24 hd h hQ
    · have h := zpos c h
      refine V_iconst 21 rfl (v := 1) dX10_takes_20 (by decide) ?_
      refine V_goto 25 dX10_takes_21 (by decide) ?_
      exact wX10_takes_J25 hd h hQ
theorem ctX10_takes {E : zE} {d : Nat} (hd : 6 ≤ d) {v1 : Nat} {mm : zM} {o : (Int32 × zM)} (h : fX10_takes v1 mm = some o) : zOC E yX10_takes cX10_takes 5 (some .boolean) d [zK 10 0, zK 61 v1] mm (some (zI o.1)) o.2 :=
  zCT_of (by decide) (Nat.le_of_ble_eq_true rfl) (zk_k (zk_k zk_0)) rfl (wX10_takes hd h (fun r e => ⟨by rw [e], by rw [e]⟩))
def fX10_fails (v1 : Int32) (v2 : Int32) (mm : zM) : Option zM :=
  (fX10_isRight mm).bind (fun x1 => if x1 = 0 then (some mm) else (some ((wi mm 10 0 9 ((((8 * v2)) + v1))))))
theorem wX10_fails {E : zE} {d : Nat} (hd : 1 ≤ d) {Q : Option zV → zM → Prop} {v1 : Int32} {v2 : Int32} {mm : zM} {o : zM} (h : fX10_fails v1 v2 mm = some o) (hQ : ∀ r, o = r → Q none r) : V E RX10 cX10_fails 3 none d Q 0 [some (zK 10 0), some (zI v1), some (zI v2)] [] mm := by
  unfold fX10_fails at h
  refine V_aload_n 1 rfl 0 dX10_fails_0 rfl rfl ?_
  obtain ⟨x1, h1, h⟩ := zbd h
  refine V_cV 4 rfl 0 [] [] dX10_fails_1 cv_X10_81 (ctX10_isRight (Nat.le_refl 0) h1) (Nat.le_trans (by decide) hd) rfl rfl (Nat.le_of_ble_eq_true rfl) zoki rfl ?_
  refine V_if_eq 7 17 rfl dX10_fails_4 (by decide) (fun c => ?_) (fun c => ?_)
  · have h := zpos c h
    exact V_vret dX10_fails_17 rfl (hQ mm (zinj h))
  · have h := zneg c h
    refine V_aload_n 8 rfl 0 dX10_fails_7 rfl rfl ?_
    refine V_bipush 10 rfl (v := 8) dX10_fails_8 (by decide) ?_
    refine V_iload_n 11 rfl 2 dX10_fails_10 rfl rfl ?_
    refine V_imul 12 rfl dX10_fails_11 ?_
    refine V_iload_n 13 rfl 1 dX10_fails_12 rfl rfl ?_
    refine V_iadd 14 rfl dX10_fails_13 ?_
    refine V_puti 17 rfl dX10_fails_14 fw_X10_78 rfl rfl rfl ?_
    exact V_vret dX10_fails_17 rfl (hQ ((wi mm 10 0 9 ((((8 * v2)) + v1)))) (zinj h))
theorem ctX10_fails {E : zE} {d : Nat} (hd : 1 ≤ d) {v1 : Int32} {v2 : Int32} {mm : zM} {o : zM} (h : fX10_fails v1 v2 mm = some o) : zOC E yX10_fails cX10_fails 3 none d [zK 10 0, zI v1, zI v2] mm none o :=
  zCT_of (by decide) (Nat.le_of_ble_eq_true rfl) (zk_k (zk_i (zk_i zk_0))) rfl (wX10_fails hd h (fun r e => ⟨rfl, by rw [e]⟩))
def fX10_isCapital (mm : zM) : Option (Int32 × zM) :=
  (fX10_next mm).bind (fun x1 => (fX10_in x1.1 65 90 x1.2).bind (fun x2 => zob (zbo x2) (some ((x2, x1.2)))))
theorem wX10_isCapital {E : zE} {d : Nat} (hd : 2 ≤ d) {Q : Option zV → zM → Prop} {mm : zM} {o : (Int32 × zM)} (h : fX10_isCapital mm = some o) (hQ : ∀ r, o = r → Q (some (zI r.1)) r.2) : V E RX10 cX10_isCapital 1 (some .boolean) d Q 0 [some (zK 10 0)] [] mm := by
  unfold fX10_isCapital at h
  refine V_aload_n 1 rfl 0 dX10_isCapital_0 rfl rfl ?_
  obtain ⟨x1, h1, h⟩ := zbd h
  refine V_cV 4 rfl 1 [] [] dX10_isCapital_1 cv_X10_85 (ctX10_next (Nat.le_refl 1) h1) (Nat.le_trans (by decide) hd) rfl rfl (Nat.le_of_ble_eq_true rfl) zoki rfl ?_
  refine V_bipush 6 rfl (v := 65) dX10_isCapital_4 (by decide) ?_
  refine V_bipush 8 rfl (v := 90) dX10_isCapital_6 (by decide) ?_
  obtain ⟨x2, h1, h⟩ := zbd h
  refine V_cS 11 rfl 0 [zI x1.1, zI 65, zI 90] [] dX10_isCapital_8 cs_X10_88 (ctX10_in (Nat.le_refl 0) h1) (Nat.le_trans (by decide) hd) rfl rfl (Nat.le_of_ble_eq_true rfl) zoki rfl ?_
  obtain ⟨hi, h⟩ := zobd h
  exact V_zret dX10_isCapital_11 rfl (zbo_n hi) (hQ ((x2, x1.2)) (zinj h))
theorem ctX10_isCapital {E : zE} {d : Nat} (hd : 2 ≤ d) {mm : zM} {o : (Int32 × zM)} (h : fX10_isCapital mm = some o) : zOC E yX10_isCapital cX10_isCapital 1 (some .boolean) d [zK 10 0] mm (some (zI o.1)) o.2 :=
  zCT_of (by decide) (Nat.le_of_ble_eq_true rfl) (zk_k zk_0) rfl (wX10_isCapital hd h (fun r e => ⟨by rw [e], by rw [e]⟩))
def fX10_unitOf_L2 (v1 : Int32) (mm : zM) (s : Int32) : Option (Int32 ⊕ (Unit ⊕ Int32)) :=
  if (gi mm 39 0 (zn 1356)) ≤ s then (some (.inr (.inl ()))) else (zob (zin ((((113 * s)) + 1)) 1357) (if (gi mm 39 0 (zn ((((113 * s)) + 1)))) = v1 then (some (.inr (.inr s))) else (some (.inl (s + 1)))))
def fX10_unitOf (v1 : Int32) (mm : zM) : Option Int32 :=
  (zloop (fX10_unitOf_L2 v1 mm) zF 0).bind (fun o3 => zcase o3 (fun y1 => some ((-1))) (fun r2 => some r2))
theorem wX10_unitOf_L2 {E : zE} {d : Nat} (hd : 0 ≤ d) {Q : Option zV → zM → Prop} {v1 : Int32} {mm : zM} {n : Nat} {s : Int32} {o : Unit ⊕ Int32} (h : zloop (fX10_unitOf_L2 v1 mm) n s = some o) (he : ∀ y : Unit, o = .inl y → V E RX10 cX10_unitOf 3 (some .int) d Q 37 [none, none, none] [] mm) (hr : ∀ r : Int32, o = .inr r → Q (some (zI r)) mm) : V E RX10 cX10_unitOf 3 (some .int) d Q 2 [some (zK 10 0), some (zI v1), some (zI s)] [] mm := by
  induction n generalizing s with
  | zero => exact (zloop_0 h).elim
  | succ n ih =>
    obtain ⟨o1, h1, hc1, he1⟩ := zloop_s h
    have kc : ∀ s' : Int32, o1 = .inl s' → V E RX10 cX10_unitOf 3 (some .int) d Q 2 [some (zK 10 0), some (zI v1), some (zI s')] [] mm := fun s' e => ih (hc1 s' e)
    have ke : ∀ y : Unit, o1 = .inr (.inl y) → V E RX10 cX10_unitOf 3 (some .int) d Q 37 [none, none, none] [] mm := fun y e => he y (he1 _ e)
    have kr : ∀ r : Int32, o1 = .inr (.inr r) → Q (some (zI r)) mm := fun r e => hr r (he1 _ e)
    clear h hc1 he1 ih
    have h := h1
    clear h1
    unfold fX10_unitOf_L2 at h
    refine V_iload_n 3 rfl 2 dX10_unitOf_2 rfl rfl ?_
    refine V_aload_n 4 rfl 0 dX10_unitOf_3 rfl rfl ?_
    refine V_getr 7 rfl 39 0 dX10_unitOf_4 fl_X10_15 rfl rfl rfl ?_
    refine V_sipush 10 rfl (v := 1356) dX10_unitOf_7 (by decide) ?_
    refine V_iald 11 rfl dX10_unitOf_10 rfl (by decide) ?_
    refine V_icmp_ge 14 37 rfl dX10_unitOf_11 (by decide) (fun c => ?_) (fun c => ?_)
    · have h := zpos c h
      exact V_w (zsub_n (zsub_n (zsub_n zsub_0))) (ke () (zinj h))
    · have h := zneg c h
      refine V_aload_n 15 rfl 0 dX10_unitOf_14 rfl rfl ?_
      refine V_getr 18 rfl 39 0 dX10_unitOf_15 fl_X10_15 rfl rfl rfl ?_
      refine V_bipush 20 rfl (v := 113) dX10_unitOf_18 (by decide) ?_
      refine V_iload_n 21 rfl 2 dX10_unitOf_20 rfl rfl ?_
      refine V_imul 22 rfl dX10_unitOf_21 ?_
      refine V_iconst 23 rfl (v := 1) dX10_unitOf_22 (by decide) ?_
      refine V_iadd 24 rfl dX10_unitOf_23 ?_
      obtain ⟨hi, h⟩ := zobd h
      refine V_iald 25 rfl dX10_unitOf_24 rfl hi ?_
      refine V_iload_n 26 rfl 1 dX10_unitOf_25 rfl rfl ?_
      refine V_icmp_ne 29 31 rfl dX10_unitOf_26 (by decide) (fun c => ?_) (fun c => ?_)
      · have h := zneg c h
        refine V_iinc 34 rfl (s + 1) (L' := [some (zK 10 0), some (zI v1), some (zI (s + 1))]) dX10_unitOf_31 rfl rfl (by decide) rfl ?_
        refine V_goto 2 dX10_unitOf_34 (by decide) ?_
        exact kc (s + 1) (zinj h)
      · have h := zpos c h
        refine V_iload_n 30 rfl 2 dX10_unitOf_29 rfl rfl ?_
        exact V_iret dX10_unitOf_30 rfl (kr s (zinj h))
theorem wX10_unitOf {E : zE} {d : Nat} (hd : 0 ≤ d) {Q : Option zV → zM → Prop} {v1 : Int32} {mm : zM} {o : Int32} (h : fX10_unitOf v1 mm = some o) (hQ : ∀ r, o = r → Q (some (zI r)) mm) : V E RX10 cX10_unitOf 3 (some .int) d Q 0 [some (zK 10 0), some (zI v1), none] [] mm := by
  unfold fX10_unitOf at h
  refine V_iconst 1 rfl (v := 0) dX10_unitOf_0 (by decide) ?_
  refine V_istore_n 2 rfl 2 (L' := [some (zK 10 0), some (zI v1), some (zI 0)]) dX10_unitOf_1 rfl (by decide) rfl ?_
  obtain ⟨o3, h1, h⟩ := zbd h
  refine wX10_unitOf_L2 hd h1 (fun y1 e => ?_) (fun r e => by have h := zcr_ e h; exact hQ r (zinj h))
  have h := zcl_ e h
  refine V_iconst 38 rfl (v := (-1)) dX10_unitOf_37 (by decide) ?_
  exact V_iret dX10_unitOf_38 rfl (hQ ((-1)) (zinj h))
theorem ctX10_unitOf {E : zE} {d : Nat} (hd : 0 ≤ d) {v1 : Int32} {mm : zM} {o : Int32} (h : fX10_unitOf v1 mm = some o) : zOC E yX10_unitOf cX10_unitOf 3 (some .int) d [zK 10 0, zI v1] mm (some (zI o)) mm :=
  zCT_of (by decide) (Nat.le_of_ble_eq_true rfl) (zk_k (zk_i zk_0)) rfl (wX10_unitOf hd h (fun r e => ⟨by rw [e], rfl⟩))
def fX10_truth (v0 : Int32) (mm : zM) : Option Int32 :=
  if v0 = 0 then (some 0) else (some 1)
theorem wX10_truth {E : zE} {d : Nat} (hd : 0 ≤ d) {Q : Option zV → zM → Prop} {v0 : Int32} {mm : zM} {o : Int32} (h : fX10_truth v0 mm = some o) (hQ : ∀ r, o = r → Q (some (zI r)) mm) : V E RX10 cX10_truth 1 (some .int) d Q 0 [some (zI v0)] [] mm := by
  unfold fX10_truth at h
  refine V_iload_n 1 rfl 0 dX10_truth_0 rfl rfl ?_
  refine V_if_eq 4 8 rfl dX10_truth_1 (by decide) (fun c => ?_) (fun c => ?_)
  · have h := zpos c h
    refine V_iconst 9 rfl (v := 0) dX10_truth_8 (by decide) ?_
    exact V_iret dX10_truth_9 rfl (hQ 0 (zinj h))
  · have h := zneg c h
    refine V_iconst 5 rfl (v := 1) dX10_truth_4 (by decide) ?_
    refine V_goto 9 dX10_truth_5 (by decide) ?_
    exact V_iret dX10_truth_9 rfl (hQ 1 (zinj h))
theorem ctX10_truth {E : zE} {d : Nat} (hd : 0 ≤ d) {v0 : Int32} {mm : zM} {o : Int32} (h : fX10_truth v0 mm = some o) : zOC E yX10_truth cX10_truth 1 (some .int) d [zI v0] mm (some (zI o)) mm :=
  zCT_of (by decide) (Nat.le_of_ble_eq_true rfl) (zk_i zk_0) rfl (wX10_truth hd h (fun r e => ⟨by rw [e], rfl⟩))
def fX10_takesSign_J20 (s0 : Int32) (mm : zM) : Option (Int32 × zM) :=
  (fX10_truth s0 mm).bind (fun x2 => zob (zbo s0) (some ((s0, (wi mm 10 0 8 ((((gi mm 10 0 8)) + x2)))))))
def fX10_takesSign_J19 (mm : zM) : Option (Int32 × zM) :=
  fX10_takesSign_J20 0 mm
def fX10_takesSign (v1 : Int32) (mm : zM) : Option (Int32 × zM) :=
  (fX10_isRight mm).bind (fun x1 => if x1 = 0 then (fX10_takesSign_J19  mm) else ((fX10_next mm).bind (fun x3 => if x3.1 = v1 then (fX10_takesSign_J20 1 x3.2) else (fX10_takesSign_J19  x3.2))))
theorem wX10_takesSign_J20 {E : zE} {d : Nat} (hd : 2 ≤ d) {Q : Option zV → zM → Prop} {s0 : Int32} {mm : zM} {o : (Int32 × zM)} (h : fX10_takesSign_J20 s0 mm = some o) (hQ : ∀ r, o = r → Q (some (zI r.1)) r.2) : V E RX10 cX10_takesSign 3 (some .boolean) d Q 20 [some (zK 10 0), none, none] [zI s0] mm := by
  unfold fX10_takesSign_J20 at h
  refine V_istore_n 21 rfl 2 (L' := [some (zK 10 0), none, some (zI s0)]) dX10_takesSign_20 rfl (by decide) rfl ?_
  refine V_aload_n 22 rfl 0 dX10_takesSign_21 rfl rfl ?_
  refine V_dup 23 rfl dX10_takesSign_22 rfl ?_
  refine V_geti 26 rfl dX10_takesSign_23 fl_X10_71 rfl ?_
  refine V_iload_n 27 rfl 2 dX10_takesSign_26 rfl rfl ?_
  obtain ⟨x2, h1, h⟩ := zbd h
  refine V_cS 30 rfl 0 [zI s0] [zI (gi mm 10 0 8), zK 10 0] dX10_takesSign_27 cs_X10_104 (ctX10_truth (Nat.le_refl 0) h1) (Nat.le_trans (by decide) hd) rfl rfl (Nat.le_of_ble_eq_true rfl) zoki rfl ?_
  refine V_iadd 31 rfl dX10_takesSign_30 ?_
  refine V_puti 34 rfl dX10_takesSign_31 fw_X10_71 rfl rfl rfl ?_
  refine V_iload_n 35 rfl 2 dX10_takesSign_34 rfl rfl ?_
  obtain ⟨hi, h⟩ := zobd h
  exact V_zret dX10_takesSign_35 rfl (zbo_n hi) (hQ ((s0, (wi mm 10 0 8 ((((gi mm 10 0 8)) + x2))))) (zinj h))
theorem wX10_takesSign_J19 {E : zE} {d : Nat} (hd : 2 ≤ d) {Q : Option zV → zM → Prop} {mm : zM} {o : (Int32 × zM)} (h : fX10_takesSign_J19  mm = some o) (hQ : ∀ r, o = r → Q (some (zI r.1)) r.2) : V E RX10 cX10_takesSign 3 (some .boolean) d Q 19 [some (zK 10 0), none, none] [] mm := by
  unfold fX10_takesSign_J19 at h
  refine V_iconst 20 rfl (v := 0) dX10_takesSign_19 (by decide) ?_
  exact wX10_takesSign_J20 hd h hQ
theorem wX10_takesSign {E : zE} {d : Nat} (hd : 2 ≤ d) {Q : Option zV → zM → Prop} {v1 : Int32} {mm : zM} {o : (Int32 × zM)} (h : fX10_takesSign v1 mm = some o) (hQ : ∀ r, o = r → Q (some (zI r.1)) r.2) : V E RX10 cX10_takesSign 3 (some .boolean) d Q 0 [some (zK 10 0), some (zI v1), none] [] mm := by
  unfold fX10_takesSign at h
  refine V_aload_n 1 rfl 0 dX10_takesSign_0 rfl rfl ?_
  obtain ⟨x1, h1, h⟩ := zbd h
  refine V_cV 4 rfl 0 [] [] dX10_takesSign_1 cv_X10_81 (ctX10_isRight (Nat.le_refl 0) h1) (Nat.le_trans (by decide) hd) rfl rfl (Nat.le_of_ble_eq_true rfl) zoki rfl ?_
  refine V_if_eq 7 19 rfl dX10_takesSign_4 (by decide) (fun c => ?_) (fun c => ?_)
  · have h := zpos c h
    exact V_w (zsub_s (zsub_n (zsub_s zsub_0))) (wX10_takesSign_J19 hd h hQ)
  · have h := zneg c h
    refine V_aload_n 8 rfl 0 dX10_takesSign_7 rfl rfl ?_
    obtain ⟨x3, h1, h⟩ := zbd h
    refine V_cV 11 rfl 1 [] [] dX10_takesSign_8 cv_X10_85 (ctX10_next (Nat.le_refl 1) h1) (Nat.le_trans (by decide) hd) rfl rfl (Nat.le_of_ble_eq_true rfl) zoki rfl ?_
    refine V_iload_n 12 rfl 1 dX10_takesSign_11 rfl rfl ?_
    refine V_icmp_ne 15 19 rfl dX10_takesSign_12 (by decide) (fun c => ?_) (fun c => ?_)
    · have h := zneg c h
      exact V_w (zsub_s (zsub_n (zsub_s zsub_0))) (wX10_takesSign_J19 hd h hQ)
    · have h := zpos c h
      refine V_iconst 16 rfl (v := 1) dX10_takesSign_15 (by decide) ?_
      refine V_goto 20 dX10_takesSign_16 (by decide) ?_
      exact V_w (zsub_s (zsub_n (zsub_s zsub_0))) (wX10_takesSign_J20 hd h hQ)
theorem ctX10_takesSign {E : zE} {d : Nat} (hd : 2 ≤ d) {v1 : Int32} {mm : zM} {o : (Int32 × zM)} (h : fX10_takesSign v1 mm = some o) : zOC E yX10_takesSign cX10_takesSign 3 (some .boolean) d [zK 10 0, zI v1] mm (some (zI o.1)) o.2 :=
  zCT_of (by decide) (Nat.le_of_ble_eq_true rfl) (zk_k (zk_i zk_0)) rfl (wX10_takesSign hd h (fun r e => ⟨by rw [e], by rw [e]⟩))
def fX10_letter (mm : zM) : Option (Int32 × zM) :=
  (fX10_wordLong mm).bind (fun x1 => if x1.1 = 1 then (zob (zin ((((gi ((wi ((wi x1.2 10 0 10 ((gi x1.2 10 0 8)))) 10 0 8 ((((gi ((wi x1.2 10 0 10 ((gi x1.2 10 0 8)))) 10 0 8)) + 1)))) 10 0 8)) - 1)) 400) (some (((((gi ((wi ((wi x1.2 10 0 10 ((gi x1.2 10 0 8)))) 10 0 8 ((((gi ((wi x1.2 10 0 10 ((gi x1.2 10 0 8)))) 10 0 8)) + 1)))) 43 0 (zn ((((gi ((wi ((wi x1.2 10 0 10 ((gi x1.2 10 0 8)))) 10 0 8 ((((gi ((wi x1.2 10 0 10 ((gi x1.2 10 0 8)))) 10 0 8)) + 1)))) 10 0 8)) - 1))))) - 97), (wi ((wi x1.2 10 0 10 ((gi x1.2 10 0 8)))) 10 0 8 ((((gi ((wi x1.2 10 0 10 ((gi x1.2 10 0 8)))) 10 0 8)) + 1))))))) else ((fX10_fails 1 ((gi ((wi x1.2 10 0 10 ((gi x1.2 10 0 8)))) 10 0 8)) ((wi x1.2 10 0 10 ((gi x1.2 10 0 8))))).bind (fun x2 => some ((0, x2)))))
theorem wX10_letter {E : zE} {d : Nat} (hd : 3 ≤ d) {Q : Option zV → zM → Prop} {mm : zM} {o : (Int32 × zM)} (h : fX10_letter mm = some o) (hQ : ∀ r, o = r → Q (some (zI r.1)) r.2) : V E RX10 cX10_letter 2 (some .int) d Q 0 [some (zK 10 0), none] [] mm := by
  unfold fX10_letter at h
  refine V_aload_n 1 rfl 0 dX10_letter_0 rfl rfl ?_
  obtain ⟨x1, h1, h⟩ := zbd h
  refine V_cV 4 rfl 2 [] [] dX10_letter_1 cv_X10_92 (ctX10_wordLong (Nat.le_refl 2) h1) (Nat.le_trans (by decide) hd) rfl rfl (Nat.le_of_ble_eq_true rfl) zoki rfl ?_
  refine V_istore_n 5 rfl 1 (L' := [some (zK 10 0), some (zI x1.1)]) dX10_letter_4 rfl (by decide) rfl ?_
  refine V_aload_n 6 rfl 0 dX10_letter_5 rfl rfl ?_
  refine V_aload_n 7 rfl 0 dX10_letter_6 rfl rfl ?_
  refine V_geti 10 rfl dX10_letter_7 fl_X10_71 rfl ?_
  refine V_puti 13 rfl dX10_letter_10 fw_X10_116 rfl rfl rfl ?_
  refine V_iload_n 14 rfl 1 dX10_letter_13 rfl rfl ?_
  refine V_iconst 15 rfl (v := 1) dX10_letter_14 (by decide) ?_
  refine V_icmp_eq 18 29 rfl dX10_letter_15 (by decide) (fun c => ?_) (fun c => ?_)
  · have h := zpos c h
    refine V_aload_n 30 rfl 0 dX10_letter_29 rfl rfl ?_
    refine V_dup 31 rfl dX10_letter_30 rfl ?_
    refine V_geti 34 rfl dX10_letter_31 fl_X10_71 rfl ?_
    refine V_iconst 35 rfl (v := 1) dX10_letter_34 (by decide) ?_
    refine V_iadd 36 rfl dX10_letter_35 ?_
    refine V_puti 39 rfl dX10_letter_36 fw_X10_71 rfl rfl rfl ?_
    refine V_aload_n 40 rfl 0 dX10_letter_39 rfl rfl ?_
    refine V_getr 43 rfl 43 0 dX10_letter_40 fl_X10_28 rfl rfl rfl ?_
    refine V_aload_n 44 rfl 0 dX10_letter_43 rfl rfl ?_
    refine V_geti 47 rfl dX10_letter_44 fl_X10_71 rfl ?_
    refine V_iconst 48 rfl (v := 1) dX10_letter_47 (by decide) ?_
    refine V_isub 49 rfl dX10_letter_48 ?_
    obtain ⟨hi, h⟩ := zobd h
    refine V_bald 50 rfl dX10_letter_49 rfl hi ?_
    refine V_bipush 52 rfl (v := 97) dX10_letter_50 (by decide) ?_
    refine V_isub 53 rfl dX10_letter_52 ?_
    exact V_iret dX10_letter_53 rfl (hQ (((((gi ((wi ((wi x1.2 10 0 10 ((gi x1.2 10 0 8)))) 10 0 8 ((((gi ((wi x1.2 10 0 10 ((gi x1.2 10 0 8)))) 10 0 8)) + 1)))) 43 0 (zn ((((gi ((wi ((wi x1.2 10 0 10 ((gi x1.2 10 0 8)))) 10 0 8 ((((gi ((wi x1.2 10 0 10 ((gi x1.2 10 0 8)))) 10 0 8)) + 1)))) 10 0 8)) - 1))))) - 97), (wi ((wi x1.2 10 0 10 ((gi x1.2 10 0 8)))) 10 0 8 ((((gi ((wi x1.2 10 0 10 ((gi x1.2 10 0 8)))) 10 0 8)) + 1))))) (zinj h))
  · have h := zneg c h
    refine V_aload_n 19 rfl 0 dX10_letter_18 rfl rfl ?_
    refine V_iconst 20 rfl (v := 1) dX10_letter_19 (by decide) ?_
    refine V_aload_n 21 rfl 0 dX10_letter_20 rfl rfl ?_
    refine V_geti 24 rfl dX10_letter_21 fl_X10_71 rfl ?_
    obtain ⟨x2, h1, h⟩ := zbd h
    refine V_cV 27 rfl 1 [zI 1, zI (gi ((wi x1.2 10 0 10 ((gi x1.2 10 0 8)))) 10 0 8)] [] dX10_letter_24 cv_X10_112 (ctX10_fails (Nat.le_refl 1) h1) (Nat.le_trans (by decide) hd) rfl rfl (Nat.le_of_ble_eq_true rfl) zokn rfl ?_
    refine V_iconst 28 rfl (v := 0) dX10_letter_27 (by decide) ?_
    exact V_iret dX10_letter_28 rfl (hQ ((0, x2)) (zinj h))
theorem ctX10_letter {E : zE} {d : Nat} (hd : 3 ≤ d) {mm : zM} {o : (Int32 × zM)} (h : fX10_letter mm = some o) : zOC E yX10_letter cX10_letter 2 (some .int) d [zK 10 0] mm (some (zI o.1)) o.2 :=
  zCT_of (by decide) (Nat.le_of_ble_eq_true rfl) (zk_k zk_0) rfl (wX10_letter hd h (fun r e => ⟨by rw [e], by rw [e]⟩))
def fX10_ownAt (v0 : Int32) (v1 : Int32) (mm : zM) : Option Int32 :=
  some ((((((((113 * v0)) + 64)) + 1)) + ((6 * v1))))
theorem wX10_ownAt {E : zE} {d : Nat} (hd : 0 ≤ d) {Q : Option zV → zM → Prop} {v0 : Int32} {v1 : Int32} {mm : zM} {o : Int32} (h : fX10_ownAt v0 v1 mm = some o) (hQ : ∀ r, o = r → Q (some (zI r)) mm) : V E RX10 cX10_ownAt 2 (some .int) d Q 0 [some (zI v0), some (zI v1)] [] mm := by
  unfold fX10_ownAt at h
  refine V_bipush 2 rfl (v := 113) dX10_ownAt_0 (by decide) ?_
  refine V_iload_n 3 rfl 0 dX10_ownAt_2 rfl rfl ?_
  refine V_imul 4 rfl dX10_ownAt_3 ?_
  refine V_bipush 6 rfl (v := 64) dX10_ownAt_4 (by decide) ?_
  refine V_iadd 7 rfl dX10_ownAt_6 ?_
  refine V_iconst 8 rfl (v := 1) dX10_ownAt_7 (by decide) ?_
  refine V_iadd 9 rfl dX10_ownAt_8 ?_
  refine V_bipush 11 rfl (v := 6) dX10_ownAt_9 (by decide) ?_
  refine V_iload_n 12 rfl 1 dX10_ownAt_11 rfl rfl ?_
  refine V_imul 13 rfl dX10_ownAt_12 ?_
  refine V_iadd 14 rfl dX10_ownAt_13 ?_
  exact V_iret dX10_ownAt_14 rfl (hQ ((((((((113 * v0)) + 64)) + 1)) + ((6 * v1)))) (zinj h))
theorem ctX10_ownAt {E : zE} {d : Nat} (hd : 0 ≤ d) {v0 : Int32} {v1 : Int32} {mm : zM} {o : Int32} (h : fX10_ownAt v0 v1 mm = some o) : zOC E yX10_ownAt cX10_ownAt 2 (some .int) d [zI v0, zI v1] mm (some (zI o)) mm :=
  zCT_of (by decide) (Nat.le_of_ble_eq_true rfl) (zk_i (zk_i zk_0)) rfl (wX10_ownAt hd h (fun r e => ⟨by rw [e], rfl⟩))
def fX10_must (v1 : Int32) (mm : zM) : Option zM :=
  (fX10_takesSign v1 mm).bind (fun x1 => if x1.1 = 0 then ((fX10_fails 1 ((gi x1.2 10 0 8)) x1.2).bind (fun x2 => some x2)) else (some x1.2))
theorem wX10_must {E : zE} {d : Nat} (hd : 3 ≤ d) {Q : Option zV → zM → Prop} {v1 : Int32} {mm : zM} {o : zM} (h : fX10_must v1 mm = some o) (hQ : ∀ r, o = r → Q none r) : V E RX10 cX10_must 2 none d Q 0 [some (zK 10 0), some (zI v1)] [] mm := by
  unfold fX10_must at h
  refine V_aload_n 1 rfl 0 dX10_must_0 rfl rfl ?_
  refine V_iload_n 2 rfl 1 dX10_must_1 rfl rfl ?_
  obtain ⟨x1, h1, h⟩ := zbd h
  refine V_cV 5 rfl 2 [zI v1] [] dX10_must_2 cv_X10_108 (ctX10_takesSign (Nat.le_refl 2) h1) (Nat.le_trans (by decide) hd) rfl rfl (Nat.le_of_ble_eq_true rfl) zoki rfl ?_
  refine V_if_ne 8 17 rfl dX10_must_5 (by decide) (fun c => ?_) (fun c => ?_)
  · have h := zneg c h
    exact V_vret dX10_must_17 rfl (hQ x1.2 (zinj h))
  · have h := zpos c h
    refine V_aload_n 9 rfl 0 dX10_must_8 rfl rfl ?_
    refine V_iconst 10 rfl (v := 1) dX10_must_9 (by decide) ?_
    refine V_aload_n 11 rfl 0 dX10_must_10 rfl rfl ?_
    refine V_geti 14 rfl dX10_must_11 fl_X10_71 rfl ?_
    obtain ⟨x2, h1, h⟩ := zbd h
    refine V_cV 17 rfl 1 [zI 1, zI (gi x1.2 10 0 8)] [] dX10_must_14 cv_X10_112 (ctX10_fails (Nat.le_refl 1) h1) (Nat.le_trans (by decide) hd) rfl rfl (Nat.le_of_ble_eq_true rfl) zokn rfl ?_
    exact V_vret dX10_must_17 rfl (hQ x2 (zinj h))
theorem ctX10_must {E : zE} {d : Nat} (hd : 3 ≤ d) {v1 : Int32} {mm : zM} {o : zM} (h : fX10_must v1 mm = some o) : zOC E yX10_must cX10_must 2 none d [zK 10 0, zI v1] mm none o :=
  zCT_of (by decide) (Nat.le_of_ble_eq_true rfl) (zk_k (zk_i zk_0)) rfl (wX10_must hd h (fun r e => ⟨rfl, by rw [e]⟩))
def fX10_term_L26 (v1 : Int32) (s : (Int32 × zM)) : Option ((Int32 × zM) ⊕ ((Int32 × zM) ⊕ Empty)) :=
  (fX10_sign s.2).bind (fun x5 => (fX10_in x5 48 57 s.2).bind (fun x6 => if x6 = 0 then (some (.inr (.inl (s.1, s.2)))) else ((fX10_sign s.2).bind (fun x7 => some (.inl ((if ((((((10 * s.1)) + x7)) - 48)) < 10000 then ((((((10 * s.1)) + x7)) - 48)) else 10000), (wi s.2 10 0 8 ((((gi s.2 10 0 8)) + 1)))))))))
def fX10_term (mm : zM) : Option (Int32 × zM) :=
  (fX10_next mm).bind (fun x1 => (fX10_in x1.1 48 57 x1.2).bind (fun x2 => if x2 = 0 then ((fX10_takes 4 x1.2).bind (fun x3 => if x3.1 = 0 then ((fX10_letter x3.2).bind (fun x4 => some (((1001 + x4.1), x4.2)))) else (some ((1000, x3.2))))) else ((zloop (fX10_term_L26 ((gi x1.2 10 0 8))) zF (0, x1.2)).bind (fun o11 => zcase o11 (fun y8 => if y8.1 ≤ 999 then (some ((y8.1, y8.2))) else ((fX10_fails 2 ((gi x1.2 10 0 8)) y8.2).bind (fun x10 => some ((y8.1, x10))))) (fun r9 => r9.elim)))))
theorem wX10_term_L26 {E : zE} {d : Nat} (hd : 7 ≤ d) {Q : Option zV → zM → Prop} {v1 : Int32} {n : Nat} {s : (Int32 × zM)} {o : (Int32 × zM) ⊕ Empty} (h : zloop (fX10_term_L26 v1) n s = some o) (he : ∀ y : (Int32 × zM), o = .inl y → V E RX10 cX10_term 3 (some .int) d Q 72 [some (zK 10 0), some (zI v1), some (zI y.1)] [] y.2) : V E RX10 cX10_term 3 (some .int) d Q 26 [some (zK 10 0), some (zI v1), some (zI s.1)] [] s.2 := by
  induction n generalizing s with
  | zero => exact (zloop_0 h).elim
  | succ n ih =>
    obtain ⟨o1, h1, hc1, he1⟩ := zloop_s h
    have kc : ∀ s' : (Int32 × zM), o1 = .inl s' → V E RX10 cX10_term 3 (some .int) d Q 26 [some (zK 10 0), some (zI v1), some (zI s'.1)] [] s'.2 := fun s' e => ih (hc1 s' e)
    have ke : ∀ y : (Int32 × zM), o1 = .inr (.inl y) → V E RX10 cX10_term 3 (some .int) d Q 72 [some (zK 10 0), some (zI v1), some (zI y.1)] [] y.2 := fun y e => he y (he1 _ e)
    clear h hc1 he1 ih
    have h := h1
    clear h1
    unfold fX10_term_L26 at h
    refine V_aload_n 27 rfl 0 dX10_term_26 rfl rfl ?_
    obtain ⟨x5, h1, h⟩ := zbd h
    refine V_cV 30 rfl 0 [] [] dX10_term_27 cv_X10_74 (ctX10_sign (Nat.le_refl 0) h1) (Nat.le_trans (by decide) hd) rfl rfl (Nat.le_of_ble_eq_true rfl) zoki rfl ?_
    refine V_bipush 32 rfl (v := 48) dX10_term_30 (by decide) ?_
    refine V_bipush 34 rfl (v := 57) dX10_term_32 (by decide) ?_
    obtain ⟨x6, h1, h⟩ := zbd h
    refine V_cS 37 rfl 0 [zI x5, zI 48, zI 57] [] dX10_term_34 cs_X10_88 (ctX10_in (Nat.le_refl 0) h1) (Nat.le_trans (by decide) hd) rfl rfl (Nat.le_of_ble_eq_true rfl) zoki rfl ?_
    refine V_if_eq 40 72 rfl dX10_term_37 (by decide) (fun c => ?_) (fun c => ?_)
    · have h := zpos c h
      exact ke (s.1, s.2) (zinj h)
    · have h := zneg c h
      refine V_sipush 43 rfl (v := 10000) dX10_term_40 (by decide) ?_
      refine V_bipush 45 rfl (v := 10) dX10_term_43 (by decide) ?_
      refine V_iload_n 46 rfl 2 dX10_term_45 rfl rfl ?_
      refine V_imul 47 rfl dX10_term_46 ?_
      refine V_aload_n 48 rfl 0 dX10_term_47 rfl rfl ?_
      obtain ⟨x7, h1, h⟩ := zbd h
      refine V_cV 51 rfl 0 [] [zI (10 * s.1), zI 10000] dX10_term_48 cv_X10_74 (ctX10_sign (Nat.le_refl 0) h1) (Nat.le_trans (by decide) hd) rfl rfl (Nat.le_of_ble_eq_true rfl) zoki rfl ?_
      refine V_iadd 52 rfl dX10_term_51 ?_
      refine V_bipush 54 rfl (v := 48) dX10_term_52 (by decide) ?_
      refine V_isub 55 rfl dX10_term_54 ?_
      refine V_mmin 58 rfl dX10_term_55 tb_1303 (Nat.le_trans (by decide) hd) (Nat.le_of_ble_eq_true rfl) ?_
      refine V_istore_n 59 rfl 2 (L' := [some (zK 10 0), some (zI v1), some (zI (if ((((((10 * s.1)) + x7)) - 48)) < 10000 then ((((((10 * s.1)) + x7)) - 48)) else 10000))]) dX10_term_58 rfl (by decide) rfl ?_
      refine V_aload_n 60 rfl 0 dX10_term_59 rfl rfl ?_
      refine V_dup 61 rfl dX10_term_60 rfl ?_
      refine V_geti 64 rfl dX10_term_61 fl_X10_71 rfl ?_
      refine V_iconst 65 rfl (v := 1) dX10_term_64 (by decide) ?_
      refine V_iadd 66 rfl dX10_term_65 ?_
      refine V_puti 69 rfl dX10_term_66 fw_X10_71 rfl rfl rfl ?_
      refine V_goto 26 dX10_term_69 (by decide) ?_
      exact kc ((if ((((((10 * s.1)) + x7)) - 48)) < 10000 then ((((((10 * s.1)) + x7)) - 48)) else 10000), (wi s.2 10 0 8 ((((gi s.2 10 0 8)) + 1)))) (zinj h)
theorem wX10_term {E : zE} {d : Nat} (hd : 7 ≤ d) {Q : Option zV → zM → Prop} {mm : zM} {o : (Int32 × zM)} (h : fX10_term mm = some o) (hQ : ∀ r, o = r → Q (some (zI r.1)) r.2) : V E RX10 cX10_term 3 (some .int) d Q 0 [some (zK 10 0), none, none] [] mm := by
  unfold fX10_term at h
  refine V_aload_n 1 rfl 0 dX10_term_0 rfl rfl ?_
  refine V_geti 4 rfl dX10_term_1 fl_X10_71 rfl ?_
  refine V_istore_n 5 rfl 1 (L' := [some (zK 10 0), some (zI (gi mm 10 0 8)), none]) dX10_term_4 rfl (by decide) rfl ?_
  refine V_aload_n 6 rfl 0 dX10_term_5 rfl rfl ?_
  obtain ⟨x1, h1, h⟩ := zbd h
  refine V_cV 9 rfl 1 [] [] dX10_term_6 cv_X10_85 (ctX10_next (Nat.le_refl 1) h1) (Nat.le_trans (by decide) hd) rfl rfl (Nat.le_of_ble_eq_true rfl) zoki rfl ?_
  refine V_bipush 11 rfl (v := 48) dX10_term_9 (by decide) ?_
  refine V_bipush 13 rfl (v := 57) dX10_term_11 (by decide) ?_
  obtain ⟨x2, h1, h⟩ := zbd h
  refine V_cS 16 rfl 0 [zI x1.1, zI 48, zI 57] [] dX10_term_13 cs_X10_88 (ctX10_in (Nat.le_refl 0) h1) (Nat.le_trans (by decide) hd) rfl rfl (Nat.le_of_ble_eq_true rfl) zoki rfl ?_
  refine V_if_eq 19 87 rfl dX10_term_16 (by decide) (fun c => ?_) (fun c => ?_)
  · have h := zpos c h
    refine V_aload_n 88 rfl 0 dX10_term_87 rfl rfl ?_
    refine V_ldcS 90 rfl (tx := "super") (i := 4) dX10_term_88 (by decide) (by decide) ?_
    obtain ⟨x3, h1, h⟩ := zbd h
    refine V_cV 93 rfl 6 [zK 61 4] [] dX10_term_90 cv_X10_161 (ctX10_takes (Nat.le_refl 6) h1) (Nat.le_trans (by decide) hd) rfl rfl (Nat.le_of_ble_eq_true rfl) zoki rfl ?_
    refine V_if_eq 96 102 rfl dX10_term_93 (by decide) (fun c => ?_) (fun c => ?_)
    · have h := zpos c h
      refine V_sipush 105 rfl (v := 1001) dX10_term_102 (by decide) ?_
      refine V_aload_n 106 rfl 0 dX10_term_105 rfl rfl ?_
      obtain ⟨x4, h1, h⟩ := zbd h
      refine V_cV 109 rfl 3 [] [zI 1001] dX10_term_106 cv_X10_130 (ctX10_letter (Nat.le_refl 3) h1) (Nat.le_trans (by decide) hd) rfl rfl (Nat.le_of_ble_eq_true rfl) zoki rfl ?_
      refine V_iadd 110 rfl dX10_term_109 ?_
      exact V_iret dX10_term_110 rfl (hQ (((1001 + x4.1), x4.2)) (zinj h))
    · have h := zneg c h
      refine V_sipush 99 rfl (v := 1000) dX10_term_96 (by decide) ?_
      refine V_goto 110 dX10_term_99 (by decide) ?_
      exact V_iret dX10_term_110 rfl (hQ ((1000, x3.2)) (zinj h))
  · have h := zneg c h
    refine V_aload_n 20 rfl 0 dX10_term_19 rfl rfl ?_
    refine V_geti 23 rfl dX10_term_20 fl_X10_71 rfl ?_
    refine V_istore_n 24 rfl 1 (L' := [some (zK 10 0), some (zI (gi x1.2 10 0 8)), none]) dX10_term_23 rfl (by decide) rfl ?_
    refine V_iconst 25 rfl (v := 0) dX10_term_24 (by decide) ?_
    refine V_istore_n 26 rfl 2 (L' := [some (zK 10 0), some (zI (gi x1.2 10 0 8)), some (zI 0)]) dX10_term_25 rfl (by decide) rfl ?_
    obtain ⟨o11, h1, h⟩ := zbd h
    refine wX10_term_L26 hd h1 (fun y8 e => ?_)
    have h := zcl_ e h
    refine V_iload_n 73 rfl 2 dX10_term_72 rfl rfl ?_
    refine V_sipush 76 rfl (v := 999) dX10_term_73 (by decide) ?_
    refine V_icmp_le 79 85 rfl dX10_term_76 (by decide) (fun c => ?_) (fun c => ?_)
    · have h := zpos c h
      refine V_iload_n 86 rfl 2 dX10_term_85 rfl rfl ?_
      exact V_iret dX10_term_86 rfl (hQ ((y8.1, y8.2)) (zinj h))
    · have h := zneg c h
      refine V_aload_n 80 rfl 0 dX10_term_79 rfl rfl ?_
      refine V_iconst 81 rfl (v := 2) dX10_term_80 (by decide) ?_
      refine V_iload_n 82 rfl 1 dX10_term_81 rfl rfl ?_
      obtain ⟨x10, h1, h⟩ := zbd h
      refine V_cV 85 rfl 1 [zI 2, zI (gi x1.2 10 0 8)] [] dX10_term_82 cv_X10_112 (ctX10_fails (Nat.le_refl 1) h1) (Nat.le_trans (by decide) hd) rfl rfl (Nat.le_of_ble_eq_true rfl) zokn rfl ?_
      refine V_iload_n 86 rfl 2 dX10_term_85 rfl rfl ?_
      exact V_iret dX10_term_86 rfl (hQ ((y8.1, x10)) (zinj h))
theorem ctX10_term {E : zE} {d : Nat} (hd : 7 ≤ d) {mm : zM} {o : (Int32 × zM)} (h : fX10_term mm = some o) : zOC E yX10_term cX10_term 3 (some .int) d [zK 10 0] mm (some (zI o.1)) o.2 :=
  zCT_of (by decide) (Nat.le_of_ble_eq_true rfl) (zk_k zk_0) rfl (wX10_term hd h (fun r e => ⟨by rw [e], by rw [e]⟩))
def fX10_readsTerms_J85 (v1 : Int32) (mm : zM) : Option ((Int32 × zM) ⊕ (zM ⊕ Empty)) :=
  (fX10_takesSign 43 mm).bind (fun x5 => some (.inl (x5.1, x5.2)))
def fX10_readsTerms_J47 (v1 : Int32) (v4 : Int32) (mm : zM) : Option ((Int32 × zM) ⊕ (zM ⊕ Empty)) :=
  (fX10_isRight mm).bind (fun x4 => if x4 = 0 then (fX10_readsTerms_J85 v1 mm) else (zob (zin ((v1 + 1)) 1357) (zob (zin ((((v1 + 2)) + ((gi mm 39 0 (zn ((v1 + 1))))))) 1357) (zob (zin ((v1 + 1)) 1357) (zob (zin ((v1 + 1)) 1357) (fX10_readsTerms_J85 v1 ((wi ((wi mm 39 0 (zn ((((v1 + 2)) + ((gi mm 39 0 (zn ((v1 + 1)))))))) v4)) 39 0 (zn ((v1 + 1))) ((((gi ((wi mm 39 0 (zn ((((v1 + 2)) + ((gi mm 39 0 (zn ((v1 + 1)))))))) v4)) 39 0 (zn ((v1 + 1))))) + 1))))))))))
def fX10_readsTerms_L2 (v1 : Int32) (s : (Int32 × zM)) : Option ((Int32 × zM) ⊕ (zM ⊕ Empty)) :=
  if s.1 = 0 then (some (.inr (.inl s.2))) else ((fX10_next s.2).bind (fun x1 => (fX10_term x1.2).bind (fun x2 => (fX10_isRight x2.2).bind (fun x3 => if x3 = 0 then (fX10_readsTerms_J47 v1 x2.1 x2.2) else (zob (zin ((v1 + 1)) 1357) (if (gi x2.2 39 0 (zn ((v1 + 1)))) = 4 then ((fX10_fails 3 ((gi x1.2 10 0 8)) x2.2).bind (fun x6 => fX10_readsTerms_J47 v1 x2.1 x6)) else (fX10_readsTerms_J47 v1 x2.1 x2.2)))))))
def fX10_readsTerms (v1 : Int32) (mm : zM) : Option zM :=
  (zloop (fX10_readsTerms_L2 v1) zF (1, mm)).bind (fun o9 => zcase o9 (fun y7 => some y7) (fun r8 => r8.elim))
theorem wX10_readsTerms_J85 {E : zE} {d : Nat} (hd : 8 ≤ d) {Q : Option zV → zM → Prop} {v1 : Int32} {mm : zM} {o : ((Int32 × zM) ⊕ (zM ⊕ Empty))} (h : fX10_readsTerms_J85 v1 mm = some o) (kc : ∀ s' : (Int32 × zM), o = .inl s' → V E RX10 cX10_readsTerms 5 none d Q 2 [some (zK 10 0), some (zI v1), some (zI s'.1), none, none] [] s'.2) (ke : ∀ y : zM, o = .inr (.inl y) → V E RX10 cX10_readsTerms 5 none d Q 95 [none, none, none, none, none] [] y) : V E RX10 cX10_readsTerms 5 none d Q 85 [some (zK 10 0), some (zI v1), none, none, none] [] mm := by
  unfold fX10_readsTerms_J85 at h
  refine V_aload_n 86 rfl 0 dX10_readsTerms_85 rfl rfl ?_
  refine V_bipush 88 rfl (v := 43) dX10_readsTerms_86 (by decide) ?_
  obtain ⟨x5, h1, h⟩ := zbd h
  refine V_cV 91 rfl 2 [zI 43] [] dX10_readsTerms_88 cv_X10_108 (ctX10_takesSign (Nat.le_refl 2) h1) (Nat.le_trans (by decide) hd) rfl rfl (Nat.le_of_ble_eq_true rfl) zoki rfl ?_
  refine V_istore_n 92 rfl 2 (L' := [some (zK 10 0), some (zI v1), some (zI x5.1), none, none]) dX10_readsTerms_91 rfl (by decide) rfl ?_
  refine V_goto 2 dX10_readsTerms_92 (by decide) ?_
  exact kc (x5.1, x5.2) (zinj h)
theorem wX10_readsTerms_J47 {E : zE} {d : Nat} (hd : 8 ≤ d) {Q : Option zV → zM → Prop} {v1 : Int32} {v4 : Int32} {mm : zM} {o : ((Int32 × zM) ⊕ (zM ⊕ Empty))} (h : fX10_readsTerms_J47 v1 v4 mm = some o) (kc : ∀ s' : (Int32 × zM), o = .inl s' → V E RX10 cX10_readsTerms 5 none d Q 2 [some (zK 10 0), some (zI v1), some (zI s'.1), none, none] [] s'.2) (ke : ∀ y : zM, o = .inr (.inl y) → V E RX10 cX10_readsTerms 5 none d Q 95 [none, none, none, none, none] [] y) : V E RX10 cX10_readsTerms 5 none d Q 47 [some (zK 10 0), some (zI v1), none, none, some (zI v4)] [] mm := by
  unfold fX10_readsTerms_J47 at h
  refine V_aload_n 48 rfl 0 dX10_readsTerms_47 rfl rfl ?_
  obtain ⟨x4, h1, h⟩ := zbd h
  refine V_cV 51 rfl 0 [] [] dX10_readsTerms_48 cv_X10_81 (ctX10_isRight (Nat.le_refl 0) h1) (Nat.le_trans (by decide) hd) rfl rfl (Nat.le_of_ble_eq_true rfl) zoki rfl ?_
  refine V_if_eq 54 85 rfl dX10_readsTerms_51 (by decide) (fun c => ?_) (fun c => ?_)
  · have h := zpos c h
    exact V_w (zsub_s (zsub_s (zsub_s (zsub_s (zsub_n zsub_0))))) (wX10_readsTerms_J85 hd h kc ke)
  · have h := zneg c h
    refine V_aload_n 55 rfl 0 dX10_readsTerms_54 rfl rfl ?_
    refine V_getr 58 rfl 39 0 dX10_readsTerms_55 fl_X10_15 rfl rfl rfl ?_
    refine V_iload_n 59 rfl 1 dX10_readsTerms_58 rfl rfl ?_
    refine V_iconst 60 rfl (v := 2) dX10_readsTerms_59 (by decide) ?_
    refine V_iadd 61 rfl dX10_readsTerms_60 ?_
    refine V_aload_n 62 rfl 0 dX10_readsTerms_61 rfl rfl ?_
    refine V_getr 65 rfl 39 0 dX10_readsTerms_62 fl_X10_15 rfl rfl rfl ?_
    refine V_iload_n 66 rfl 1 dX10_readsTerms_65 rfl rfl ?_
    refine V_iconst 67 rfl (v := 1) dX10_readsTerms_66 (by decide) ?_
    refine V_iadd 68 rfl dX10_readsTerms_67 ?_
    obtain ⟨hi, h⟩ := zobd h
    refine V_iald 69 rfl dX10_readsTerms_68 rfl hi ?_
    refine V_iadd 70 rfl dX10_readsTerms_69 ?_
    refine V_iload 72 rfl dX10_readsTerms_70 rfl ?_
    obtain ⟨hi, h⟩ := zobd h
    refine V_iast 73 rfl dX10_readsTerms_72 rfl hi ?_
    refine V_aload_n 74 rfl 0 dX10_readsTerms_73 rfl rfl ?_
    refine V_getr 77 rfl 39 0 dX10_readsTerms_74 fl_X10_15 rfl rfl rfl ?_
    refine V_iload_n 78 rfl 1 dX10_readsTerms_77 rfl rfl ?_
    refine V_iconst 79 rfl (v := 1) dX10_readsTerms_78 (by decide) ?_
    refine V_iadd 80 rfl dX10_readsTerms_79 ?_
    refine V_dup2 81 rfl dX10_readsTerms_80 rfl rfl ?_
    obtain ⟨hi, h⟩ := zobd h
    refine V_iald 82 rfl dX10_readsTerms_81 rfl hi ?_
    refine V_iconst 83 rfl (v := 1) dX10_readsTerms_82 (by decide) ?_
    refine V_iadd 84 rfl dX10_readsTerms_83 ?_
    obtain ⟨hi, h⟩ := zobd h
    refine V_iast 85 rfl dX10_readsTerms_84 rfl hi ?_
    exact V_w (zsub_s (zsub_s (zsub_s (zsub_s (zsub_n zsub_0))))) (wX10_readsTerms_J85 hd h kc ke)
theorem wX10_readsTerms_L2 {E : zE} {d : Nat} (hd : 8 ≤ d) {Q : Option zV → zM → Prop} {v1 : Int32} {n : Nat} {s : (Int32 × zM)} {o : zM ⊕ Empty} (h : zloop (fX10_readsTerms_L2 v1) n s = some o) (he : ∀ y : zM, o = .inl y → V E RX10 cX10_readsTerms 5 none d Q 95 [none, none, none, none, none] [] y) : V E RX10 cX10_readsTerms 5 none d Q 2 [some (zK 10 0), some (zI v1), some (zI s.1), none, none] [] s.2 := by
  induction n generalizing s with
  | zero => exact (zloop_0 h).elim
  | succ n ih =>
    obtain ⟨o1, h1, hc1, he1⟩ := zloop_s h
    have kc : ∀ s' : (Int32 × zM), o1 = .inl s' → V E RX10 cX10_readsTerms 5 none d Q 2 [some (zK 10 0), some (zI v1), some (zI s'.1), none, none] [] s'.2 := fun s' e => ih (hc1 s' e)
    have ke : ∀ y : zM, o1 = .inr (.inl y) → V E RX10 cX10_readsTerms 5 none d Q 95 [none, none, none, none, none] [] y := fun y e => he y (he1 _ e)
    clear h hc1 he1 ih
    have h := h1
    clear h1
    unfold fX10_readsTerms_L2 at h
    refine V_iload_n 3 rfl 2 dX10_readsTerms_2 rfl rfl ?_
    refine V_if_eq 6 95 rfl dX10_readsTerms_3 (by decide) (fun c => ?_) (fun c => ?_)
    · have h := zpos c h
      exact V_w (zsub_n (zsub_n (zsub_n (zsub_s (zsub_s zsub_0))))) (ke s.2 (zinj h))
    · have h := zneg c h
      refine V_aload_n 7 rfl 0 dX10_readsTerms_6 rfl rfl ?_
      obtain ⟨x1, h1, h⟩ := zbd h
      refine V_cV 10 rfl 1 [] [] dX10_readsTerms_7 cv_X10_85 (ctX10_next (Nat.le_refl 1) h1) (Nat.le_trans (by decide) hd) rfl rfl (Nat.le_of_ble_eq_true rfl) zoki rfl ?_
      refine V_pop 11 rfl dX10_readsTerms_10 rfl ?_
      refine V_aload_n 12 rfl 0 dX10_readsTerms_11 rfl rfl ?_
      refine V_geti 15 rfl dX10_readsTerms_12 fl_X10_71 rfl ?_
      refine V_istore_n 16 rfl 3 (L' := [some (zK 10 0), some (zI v1), some (zI s.1), some (zI (gi x1.2 10 0 8)), none]) dX10_readsTerms_15 rfl (by decide) rfl ?_
      refine V_aload_n 17 rfl 0 dX10_readsTerms_16 rfl rfl ?_
      obtain ⟨x2, h1, h⟩ := zbd h
      refine V_cV 20 rfl 7 [] [] dX10_readsTerms_17 cv_X10_165 (ctX10_term (Nat.le_refl 7) h1) (Nat.le_trans (by decide) hd) rfl rfl (Nat.le_of_ble_eq_true rfl) zoki rfl ?_
      refine V_istore 22 rfl (L' := [some (zK 10 0), some (zI v1), some (zI s.1), some (zI (gi x1.2 10 0 8)), some (zI x2.1)]) dX10_readsTerms_20 (by decide) rfl ?_
      refine V_aload_n 23 rfl 0 dX10_readsTerms_22 rfl rfl ?_
      obtain ⟨x3, h1, h⟩ := zbd h
      refine V_cV 26 rfl 0 [] [] dX10_readsTerms_23 cv_X10_81 (ctX10_isRight (Nat.le_refl 0) h1) (Nat.le_trans (by decide) hd) rfl rfl (Nat.le_of_ble_eq_true rfl) zoki rfl ?_
      refine V_if_eq 29 47 rfl dX10_readsTerms_26 (by decide) (fun c => ?_) (fun c => ?_)
      · have h := zpos c h
        exact V_w (zsub_s (zsub_s (zsub_n (zsub_n (zsub_s zsub_0))))) (wX10_readsTerms_J47 hd h kc ke)
      · have h := zneg c h
        refine V_aload_n 30 rfl 0 dX10_readsTerms_29 rfl rfl ?_
        refine V_getr 33 rfl 39 0 dX10_readsTerms_30 fl_X10_15 rfl rfl rfl ?_
        refine V_iload_n 34 rfl 1 dX10_readsTerms_33 rfl rfl ?_
        refine V_iconst 35 rfl (v := 1) dX10_readsTerms_34 (by decide) ?_
        refine V_iadd 36 rfl dX10_readsTerms_35 ?_
        obtain ⟨hi, h⟩ := zobd h
        refine V_iald 37 rfl dX10_readsTerms_36 rfl hi ?_
        refine V_iconst 38 rfl (v := 4) dX10_readsTerms_37 (by decide) ?_
        refine V_icmp_ne 41 47 rfl dX10_readsTerms_38 (by decide) (fun c => ?_) (fun c => ?_)
        · have h := zneg c h
          exact V_w (zsub_s (zsub_s (zsub_n (zsub_n (zsub_s zsub_0))))) (wX10_readsTerms_J47 hd h kc ke)
        · have h := zpos c h
          refine V_aload_n 42 rfl 0 dX10_readsTerms_41 rfl rfl ?_
          refine V_iconst 43 rfl (v := 3) dX10_readsTerms_42 (by decide) ?_
          refine V_iload_n 44 rfl 3 dX10_readsTerms_43 rfl rfl ?_
          obtain ⟨x6, h1, h⟩ := zbd h
          refine V_cV 47 rfl 1 [zI 3, zI (gi x1.2 10 0 8)] [] dX10_readsTerms_44 cv_X10_112 (ctX10_fails (Nat.le_refl 1) h1) (Nat.le_trans (by decide) hd) rfl rfl (Nat.le_of_ble_eq_true rfl) zokn rfl ?_
          exact V_w (zsub_s (zsub_s (zsub_n (zsub_n (zsub_s zsub_0))))) (wX10_readsTerms_J47 hd h kc ke)
theorem wX10_readsTerms {E : zE} {d : Nat} (hd : 8 ≤ d) {Q : Option zV → zM → Prop} {v1 : Int32} {mm : zM} {o : zM} (h : fX10_readsTerms v1 mm = some o) (hQ : ∀ r, o = r → Q none r) : V E RX10 cX10_readsTerms 5 none d Q 0 [some (zK 10 0), some (zI v1), none, none, none] [] mm := by
  unfold fX10_readsTerms at h
  refine V_iconst 1 rfl (v := 1) dX10_readsTerms_0 (by decide) ?_
  refine V_istore_n 2 rfl 2 (L' := [some (zK 10 0), some (zI v1), some (zI 1), none, none]) dX10_readsTerms_1 rfl (by decide) rfl ?_
  obtain ⟨o9, h1, h⟩ := zbd h
  refine wX10_readsTerms_L2 hd h1 (fun y7 e => ?_)
  have h := zcl_ e h
  exact V_vret dX10_readsTerms_95 rfl (hQ y7 (zinj h))
theorem ctX10_readsTerms {E : zE} {d : Nat} (hd : 8 ≤ d) {v1 : Int32} {mm : zM} {o : zM} (h : fX10_readsTerms v1 mm = some o) : zOC E yX10_readsTerms cX10_readsTerms 5 none d [zK 10 0, zI v1] mm none o :=
  zCT_of (by decide) (Nat.le_of_ble_eq_true rfl) (zk_k (zk_i zk_0)) rfl (wX10_readsTerms hd h (fun r e => ⟨rfl, by rw [e]⟩))
def fX10_readsOwns_L29 (v1 : Int32) (v2 : Int32) (v4 : Int32) (v5 : Int32) (s : (Int32 × zM)) : Option ((Int32 × zM) ⊕ (zM ⊕ Empty)) :=
  zob (zin v2 1357) (if (gi s.2 39 0 (zn v2)) ≤ s.1 then (some (.inr (.inl s.2))) else ((fX10_isRight s.2).bind (fun x2 => if x2 = 0 then (some (.inr (.inl s.2))) else ((fX10_ownAt v1 s.1 s.2).bind (fun x3 => zob (zin x3 1357) (if (gi s.2 39 0 (zn x3)) = v4 then ((fX10_fails 2 v5 s.2).bind (fun x4 => some (.inl ((s.1 + 1), x4)))) else (some (.inl ((s.1 + 1), s.2)))))))))
def fX10_readsOwns_J178 (v1 : Int32) (v2 : Int32) (mm : zM) : Option ((Int32 × zM) ⊕ (zM ⊕ zM)) :=
  (fX10_isRight mm).bind (fun x11 => if x11 = 0 then (some (.inl (0, mm))) else ((fX10_wordLong mm).bind (fun x12 => if x12.1 ≤ 0 then (some (.inl (0, x12.2))) else (some (.inl (1, x12.2))))))
def fX10_readsOwns_J101 (v1 : Int32) (v2 : Int32) (v4 : Int32) (mm : zM) : Option ((Int32 × zM) ⊕ (zM ⊕ zM)) :=
  (fX10_isRight mm).bind (fun x8 => if x8 = 0 then (some (.inr (.inr mm))) else (zob (zin v2 1357) ((fX10_ownAt v1 ((gi mm 39 0 (zn v2))) mm).bind (fun x9 => zob (zin x9 1357) (zob (zin ((x9 + 1)) 1357) (zob (zin v2 1357) (zob (zin v2 1357) ((fX10_takesSign 63 ((wi ((wi ((wi mm 39 0 (zn x9) v4)) 39 0 (zn ((x9 + 1))) 0)) 39 0 (zn v2) ((((gi ((wi ((wi mm 39 0 (zn x9) v4)) 39 0 (zn ((x9 + 1))) 0)) 39 0 (zn v2))) + 1))))).bind (fun x10 => if x10.1 = 0 then ((fX10_must 61 x10.2).bind (fun x13 => (fX10_isRight x13).bind (fun x14 => if x14 = 0 then (fX10_readsOwns_J178 v1 v2 x13) else ((fX10_readsTerms x9 x13).bind (fun x15 => fX10_readsOwns_J178 v1 v2 x15))))) else (fX10_readsOwns_J178 v1 v2 x10.2))))))))))
def fX10_readsOwns_L10 (v1 : Int32) (v2 : Int32) (s : (Int32 × zM)) : Option ((Int32 × zM) ⊕ (zM ⊕ zM)) :=
  if s.1 = 0 then (some (.inr (.inl s.2))) else ((fX10_letter s.2).bind (fun x1 => (zloop (fX10_readsOwns_L29 v1 v2 x1.1 ((gi x1.2 10 0 10))) zF (0, x1.2)).bind (fun o17 => zcase o17 (fun y5 => (fX10_isRight y5).bind (fun x7 => if x7 = 0 then (fX10_readsOwns_J101 v1 v2 x1.1 y5) else (zob (zin v2 1357) (if (gi y5 39 0 (zn v2)) = 8 then ((fX10_fails 3 ((gi x1.2 10 0 10)) y5).bind (fun x16 => fX10_readsOwns_J101 v1 v2 x1.1 x16)) else (fX10_readsOwns_J101 v1 v2 x1.1 y5))))) (fun r6 => r6.elim))))
def fX10_readsOwns (v1 : Int32) (mm : zM) : Option zM :=
  (zloop (fX10_readsOwns_L10 v1 ((((113 * v1)) + 64))) zF (1, mm)).bind (fun o20 => zcase o20 (fun y18 => some y18) (fun r19 => some r19))
theorem wX10_readsOwns_L29 {E : zE} {d : Nat} (hd : 9 ≤ d) {Q : Option zV → zM → Prop} {v1 : Int32} {v2 : Int32} {v4 : Int32} {v5 : Int32} {n : Nat} {s : (Int32 × zM)} {o : zM ⊕ Empty} (h : zloop (fX10_readsOwns_L29 v1 v2 v4 v5) n s = some o) (he : ∀ y : zM, o = .inl y → V E RX10 cX10_readsOwns 7 none d Q 76 [some (zK 10 0), some (zI v1), some (zI v2), none, some (zI v4), some (zI v5), none] [] y) : V E RX10 cX10_readsOwns 7 none d Q 29 [some (zK 10 0), some (zI v1), some (zI v2), none, some (zI v4), some (zI v5), some (zI s.1)] [] s.2 := by
  induction n generalizing s with
  | zero => exact (zloop_0 h).elim
  | succ n ih =>
    obtain ⟨o1, h1, hc1, he1⟩ := zloop_s h
    have kc : ∀ s' : (Int32 × zM), o1 = .inl s' → V E RX10 cX10_readsOwns 7 none d Q 29 [some (zK 10 0), some (zI v1), some (zI v2), none, some (zI v4), some (zI v5), some (zI s'.1)] [] s'.2 := fun s' e => ih (hc1 s' e)
    have ke : ∀ y : zM, o1 = .inr (.inl y) → V E RX10 cX10_readsOwns 7 none d Q 76 [some (zK 10 0), some (zI v1), some (zI v2), none, some (zI v4), some (zI v5), none] [] y := fun y e => he y (he1 _ e)
    clear h hc1 he1 ih
    have h := h1
    clear h1
    unfold fX10_readsOwns_L29 at h
    refine V_iload 31 rfl dX10_readsOwns_29 rfl ?_
    refine V_aload_n 32 rfl 0 dX10_readsOwns_31 rfl rfl ?_
    refine V_getr 35 rfl 39 0 dX10_readsOwns_32 fl_X10_15 rfl rfl rfl ?_
    refine V_iload_n 36 rfl 2 dX10_readsOwns_35 rfl rfl ?_
    obtain ⟨hi, h⟩ := zobd h
    refine V_iald 37 rfl dX10_readsOwns_36 rfl hi ?_
    refine V_icmp_ge 40 76 rfl dX10_readsOwns_37 (by decide) (fun c => ?_) (fun c => ?_)
    · have h := zpos c h
      exact V_w (zsub_s (zsub_s (zsub_s (zsub_s (zsub_s (zsub_s (zsub_n zsub_0))))))) (ke s.2 (zinj h))
    · have h := zneg c h
      refine V_aload_n 41 rfl 0 dX10_readsOwns_40 rfl rfl ?_
      obtain ⟨x2, h1, h⟩ := zbd h
      refine V_cV 44 rfl 0 [] [] dX10_readsOwns_41 cv_X10_81 (ctX10_isRight (Nat.le_refl 0) h1) (Nat.le_trans (by decide) hd) rfl rfl (Nat.le_of_ble_eq_true rfl) zoki rfl ?_
      refine V_if_eq 47 76 rfl dX10_readsOwns_44 (by decide) (fun c => ?_) (fun c => ?_)
      · have h := zpos c h
        exact V_w (zsub_s (zsub_s (zsub_s (zsub_s (zsub_s (zsub_s (zsub_n zsub_0))))))) (ke s.2 (zinj h))
      · have h := zneg c h
        refine V_aload_n 48 rfl 0 dX10_readsOwns_47 rfl rfl ?_
        refine V_getr 51 rfl 39 0 dX10_readsOwns_48 fl_X10_15 rfl rfl rfl ?_
        refine V_iload_n 52 rfl 1 dX10_readsOwns_51 rfl rfl ?_
        refine V_iload 54 rfl dX10_readsOwns_52 rfl ?_
        obtain ⟨x3, h1, h⟩ := zbd h
        refine V_cS 57 rfl 0 [zI v1, zI s.1] [zK 39 0] dX10_readsOwns_54 cs_X10_168 (ctX10_ownAt (Nat.le_refl 0) h1) (Nat.le_trans (by decide) hd) rfl rfl (Nat.le_of_ble_eq_true rfl) zoki rfl ?_
        obtain ⟨hi, h⟩ := zobd h
        refine V_iald 58 rfl dX10_readsOwns_57 rfl hi ?_
        refine V_iload 60 rfl dX10_readsOwns_58 rfl ?_
        refine V_icmp_ne 63 70 rfl dX10_readsOwns_60 (by decide) (fun c => ?_) (fun c => ?_)
        · have h := zneg c h
          refine V_iinc 73 rfl (s.1 + 1) (L' := [some (zK 10 0), some (zI v1), some (zI v2), none, some (zI v4), some (zI v5), some (zI (s.1 + 1))]) dX10_readsOwns_70 rfl rfl (by decide) rfl ?_
          refine V_goto 29 dX10_readsOwns_73 (by decide) ?_
          exact kc ((s.1 + 1), s.2) (zinj h)
        · have h := zpos c h
          refine V_aload_n 64 rfl 0 dX10_readsOwns_63 rfl rfl ?_
          refine V_iconst 65 rfl (v := 2) dX10_readsOwns_64 (by decide) ?_
          refine V_iload 67 rfl dX10_readsOwns_65 rfl ?_
          obtain ⟨x4, h1, h⟩ := zbd h
          refine V_cV 70 rfl 1 [zI 2, zI v5] [] dX10_readsOwns_67 cv_X10_112 (ctX10_fails (Nat.le_refl 1) h1) (Nat.le_trans (by decide) hd) rfl rfl (Nat.le_of_ble_eq_true rfl) zokn rfl ?_
          refine V_iinc 73 rfl (s.1 + 1) (L' := [some (zK 10 0), some (zI v1), some (zI v2), none, some (zI v4), some (zI v5), some (zI (s.1 + 1))]) dX10_readsOwns_70 rfl rfl (by decide) rfl ?_
          refine V_goto 29 dX10_readsOwns_73 (by decide) ?_
          exact kc ((s.1 + 1), x4) (zinj h)
theorem wX10_readsOwns_J178 {E : zE} {d : Nat} (hd : 9 ≤ d) {Q : Option zV → zM → Prop} {v1 : Int32} {v2 : Int32} {mm : zM} {o : ((Int32 × zM) ⊕ (zM ⊕ zM))} (h : fX10_readsOwns_J178 v1 v2 mm = some o) (kc : ∀ s' : (Int32 × zM), o = .inl s' → V E RX10 cX10_readsOwns 7 none d Q 10 [some (zK 10 0), some (zI v1), some (zI v2), some (zI s'.1), none, none, none] [] s'.2) (ke : ∀ y : zM, o = .inr (.inl y) → V E RX10 cX10_readsOwns 7 none d Q 201 [none, none, none, none, none, none, none] [] y) (kr : ∀ r : zM, o = .inr (.inr r) → Q none r) : V E RX10 cX10_readsOwns 7 none d Q 178 [some (zK 10 0), some (zI v1), some (zI v2), none, none, none, none] [] mm := by
  unfold fX10_readsOwns_J178 at h
  refine V_aload_n 179 rfl 0 dX10_readsOwns_178 rfl rfl ?_
  obtain ⟨x11, h1, h⟩ := zbd h
  refine V_cV 182 rfl 0 [] [] dX10_readsOwns_179 cv_X10_81 (ctX10_isRight (Nat.le_refl 0) h1) (Nat.le_trans (by decide) hd) rfl rfl (Nat.le_of_ble_eq_true rfl) zoki rfl ?_
  refine V_if_eq 185 196 rfl dX10_readsOwns_182 (by decide) (fun c => ?_) (fun c => ?_)
  · have h := zpos c h
    refine V_iconst 197 rfl (v := 0) dX10_readsOwns_196 (by decide) ?_
    refine V_istore_n 198 rfl 3 (L' := [some (zK 10 0), some (zI v1), some (zI v2), some (zI 0), none, none, none]) dX10_readsOwns_197 rfl (by decide) rfl ?_
    refine V_goto 10 dX10_readsOwns_198 (by decide) ?_
    exact kc (0, mm) (zinj h)
  · have h := zneg c h
    refine V_aload_n 186 rfl 0 dX10_readsOwns_185 rfl rfl ?_
    obtain ⟨x12, h1, h⟩ := zbd h
    refine V_cV 189 rfl 2 [] [] dX10_readsOwns_186 cv_X10_92 (ctX10_wordLong (Nat.le_refl 2) h1) (Nat.le_trans (by decide) hd) rfl rfl (Nat.le_of_ble_eq_true rfl) zoki rfl ?_
    refine V_if_le 192 196 rfl dX10_readsOwns_189 (by decide) (fun c => ?_) (fun c => ?_)
    · have h := zpos c h
      refine V_iconst 197 rfl (v := 0) dX10_readsOwns_196 (by decide) ?_
      refine V_istore_n 198 rfl 3 (L' := [some (zK 10 0), some (zI v1), some (zI v2), some (zI 0), none, none, none]) dX10_readsOwns_197 rfl (by decide) rfl ?_
      refine V_goto 10 dX10_readsOwns_198 (by decide) ?_
      exact kc (0, x12.2) (zinj h)
    · have h := zneg c h
      refine V_iconst 193 rfl (v := 1) dX10_readsOwns_192 (by decide) ?_
      refine V_goto 197 dX10_readsOwns_193 (by decide) ?_
      refine V_istore_n 198 rfl 3 (L' := [some (zK 10 0), some (zI v1), some (zI v2), some (zI 1), none, none, none]) dX10_readsOwns_197 rfl (by decide) rfl ?_
      refine V_goto 10 dX10_readsOwns_198 (by decide) ?_
      exact kc (1, x12.2) (zinj h)
theorem wX10_readsOwns_J101 {E : zE} {d : Nat} (hd : 9 ≤ d) {Q : Option zV → zM → Prop} {v1 : Int32} {v2 : Int32} {v4 : Int32} {mm : zM} {o : ((Int32 × zM) ⊕ (zM ⊕ zM))} (h : fX10_readsOwns_J101 v1 v2 v4 mm = some o) (kc : ∀ s' : (Int32 × zM), o = .inl s' → V E RX10 cX10_readsOwns 7 none d Q 10 [some (zK 10 0), some (zI v1), some (zI v2), some (zI s'.1), none, none, none] [] s'.2) (ke : ∀ y : zM, o = .inr (.inl y) → V E RX10 cX10_readsOwns 7 none d Q 201 [none, none, none, none, none, none, none] [] y) (kr : ∀ r : zM, o = .inr (.inr r) → Q none r) : V E RX10 cX10_readsOwns 7 none d Q 101 [some (zK 10 0), some (zI v1), some (zI v2), none, some (zI v4), none, none] [] mm := by
  unfold fX10_readsOwns_J101 at h
  refine V_aload_n 102 rfl 0 dX10_readsOwns_101 rfl rfl ?_
  obtain ⟨x8, h1, h⟩ := zbd h
  refine V_cV 105 rfl 0 [] [] dX10_readsOwns_102 cv_X10_81 (ctX10_isRight (Nat.le_refl 0) h1) (Nat.le_trans (by decide) hd) rfl rfl (Nat.le_of_ble_eq_true rfl) zoki rfl ?_
  refine V_if_ne 108 109 rfl dX10_readsOwns_105 (by decide) (fun c => ?_) (fun c => ?_)
  · have h := zneg c h
    refine V_iload_n 110 rfl 1 dX10_readsOwns_109 rfl rfl ?_
    refine V_aload_n 111 rfl 0 dX10_readsOwns_110 rfl rfl ?_
    refine V_getr 114 rfl 39 0 dX10_readsOwns_111 fl_X10_15 rfl rfl rfl ?_
    refine V_iload_n 115 rfl 2 dX10_readsOwns_114 rfl rfl ?_
    obtain ⟨hi, h⟩ := zobd h
    refine V_iald 116 rfl dX10_readsOwns_115 rfl hi ?_
    obtain ⟨x9, h1, h⟩ := zbd h
    refine V_cS 119 rfl 0 [zI v1, zI (gi mm 39 0 (zn v2))] [] dX10_readsOwns_116 cs_X10_168 (ctX10_ownAt (Nat.le_refl 0) h1) (Nat.le_trans (by decide) hd) rfl rfl (Nat.le_of_ble_eq_true rfl) zoki rfl ?_
    refine V_istore 121 rfl (L' := [some (zK 10 0), some (zI v1), some (zI v2), none, some (zI v4), none, some (zI x9)]) dX10_readsOwns_119 (by decide) rfl ?_
    refine V_aload_n 122 rfl 0 dX10_readsOwns_121 rfl rfl ?_
    refine V_getr 125 rfl 39 0 dX10_readsOwns_122 fl_X10_15 rfl rfl rfl ?_
    refine V_iload 127 rfl dX10_readsOwns_125 rfl ?_
    refine V_iload 129 rfl dX10_readsOwns_127 rfl ?_
    obtain ⟨hi, h⟩ := zobd h
    refine V_iast 130 rfl dX10_readsOwns_129 rfl hi ?_
    refine V_aload_n 131 rfl 0 dX10_readsOwns_130 rfl rfl ?_
    refine V_getr 134 rfl 39 0 dX10_readsOwns_131 fl_X10_15 rfl rfl rfl ?_
    refine V_iload 136 rfl dX10_readsOwns_134 rfl ?_
    refine V_iconst 137 rfl (v := 1) dX10_readsOwns_136 (by decide) ?_
    refine V_iadd 138 rfl dX10_readsOwns_137 ?_
    refine V_iconst 139 rfl (v := 0) dX10_readsOwns_138 (by decide) ?_
    obtain ⟨hi, h⟩ := zobd h
    refine V_iast 140 rfl dX10_readsOwns_139 rfl hi ?_
    refine V_aload_n 141 rfl 0 dX10_readsOwns_140 rfl rfl ?_
    refine V_getr 144 rfl 39 0 dX10_readsOwns_141 fl_X10_15 rfl rfl rfl ?_
    refine V_iload_n 145 rfl 2 dX10_readsOwns_144 rfl rfl ?_
    refine V_dup2 146 rfl dX10_readsOwns_145 rfl rfl ?_
    obtain ⟨hi, h⟩ := zobd h
    refine V_iald 147 rfl dX10_readsOwns_146 rfl hi ?_
    refine V_iconst 148 rfl (v := 1) dX10_readsOwns_147 (by decide) ?_
    refine V_iadd 149 rfl dX10_readsOwns_148 ?_
    obtain ⟨hi, h⟩ := zobd h
    refine V_iast 150 rfl dX10_readsOwns_149 rfl hi ?_
    refine V_aload_n 151 rfl 0 dX10_readsOwns_150 rfl rfl ?_
    refine V_bipush 153 rfl (v := 63) dX10_readsOwns_151 (by decide) ?_
    obtain ⟨x10, h1, h⟩ := zbd h
    refine V_cV 156 rfl 2 [zI 63] [] dX10_readsOwns_153 cv_X10_108 (ctX10_takesSign (Nat.le_refl 2) h1) (Nat.le_trans (by decide) hd) rfl rfl (Nat.le_of_ble_eq_true rfl) zoki rfl ?_
    refine V_if_ne 159 178 rfl dX10_readsOwns_156 (by decide) (fun c => ?_) (fun c => ?_)
    · have h := zneg c h
      exact V_w (zsub_s (zsub_s (zsub_s (zsub_s (zsub_n (zsub_s (zsub_n zsub_0))))))) (wX10_readsOwns_J178 hd h kc ke kr)
    · have h := zpos c h
      refine V_aload_n 160 rfl 0 dX10_readsOwns_159 rfl rfl ?_
      refine V_bipush 162 rfl (v := 61) dX10_readsOwns_160 (by decide) ?_
      obtain ⟨x13, h1, h⟩ := zbd h
      refine V_cV 165 rfl 3 [zI 61] [] dX10_readsOwns_162 cv_X10_144 (ctX10_must (Nat.le_refl 3) h1) (Nat.le_trans (by decide) hd) rfl rfl (Nat.le_of_ble_eq_true rfl) zokn rfl ?_
      refine V_aload_n 166 rfl 0 dX10_readsOwns_165 rfl rfl ?_
      obtain ⟨x14, h1, h⟩ := zbd h
      refine V_cV 169 rfl 0 [] [] dX10_readsOwns_166 cv_X10_81 (ctX10_isRight (Nat.le_refl 0) h1) (Nat.le_trans (by decide) hd) rfl rfl (Nat.le_of_ble_eq_true rfl) zoki rfl ?_
      refine V_if_eq 172 178 rfl dX10_readsOwns_169 (by decide) (fun c => ?_) (fun c => ?_)
      · have h := zpos c h
        exact V_w (zsub_s (zsub_s (zsub_s (zsub_s (zsub_n (zsub_s (zsub_n zsub_0))))))) (wX10_readsOwns_J178 hd h kc ke kr)
      · have h := zneg c h
        refine V_aload_n 173 rfl 0 dX10_readsOwns_172 rfl rfl ?_
        refine V_iload 175 rfl dX10_readsOwns_173 rfl ?_
        obtain ⟨x15, h1, h⟩ := zbd h
        refine V_cV 178 rfl 8 [zI x9] [] dX10_readsOwns_175 cv_X10_171 (ctX10_readsTerms (Nat.le_refl 8) h1) (Nat.le_trans (by decide) hd) rfl rfl (Nat.le_of_ble_eq_true rfl) zokn rfl ?_
        exact V_w (zsub_s (zsub_s (zsub_s (zsub_s (zsub_n (zsub_s (zsub_n zsub_0))))))) (wX10_readsOwns_J178 hd h kc ke kr)
  · have h := zpos c h
    exact V_vret dX10_readsOwns_108 rfl (kr mm (zinj h))
theorem wX10_readsOwns_L10 {E : zE} {d : Nat} (hd : 9 ≤ d) {Q : Option zV → zM → Prop} {v1 : Int32} {v2 : Int32} {n : Nat} {s : (Int32 × zM)} {o : zM ⊕ zM} (h : zloop (fX10_readsOwns_L10 v1 v2) n s = some o) (he : ∀ y : zM, o = .inl y → V E RX10 cX10_readsOwns 7 none d Q 201 [none, none, none, none, none, none, none] [] y) (hr : ∀ r : zM, o = .inr r → Q none r) : V E RX10 cX10_readsOwns 7 none d Q 10 [some (zK 10 0), some (zI v1), some (zI v2), some (zI s.1), none, none, none] [] s.2 := by
  induction n generalizing s with
  | zero => exact (zloop_0 h).elim
  | succ n ih =>
    obtain ⟨o1, h1, hc1, he1⟩ := zloop_s h
    have kc : ∀ s' : (Int32 × zM), o1 = .inl s' → V E RX10 cX10_readsOwns 7 none d Q 10 [some (zK 10 0), some (zI v1), some (zI v2), some (zI s'.1), none, none, none] [] s'.2 := fun s' e => ih (hc1 s' e)
    have ke : ∀ y : zM, o1 = .inr (.inl y) → V E RX10 cX10_readsOwns 7 none d Q 201 [none, none, none, none, none, none, none] [] y := fun y e => he y (he1 _ e)
    have kr : ∀ r : zM, o1 = .inr (.inr r) → Q none r := fun r e => hr r (he1 _ e)
    clear h hc1 he1 ih
    have h := h1
    clear h1
    unfold fX10_readsOwns_L10 at h
    refine V_iload_n 11 rfl 3 dX10_readsOwns_10 rfl rfl ?_
    refine V_if_eq 14 201 rfl dX10_readsOwns_11 (by decide) (fun c => ?_) (fun c => ?_)
    · have h := zpos c h
      exact V_w (zsub_n (zsub_n (zsub_n (zsub_n (zsub_s (zsub_s (zsub_s zsub_0))))))) (ke s.2 (zinj h))
    · have h := zneg c h
      refine V_aload_n 15 rfl 0 dX10_readsOwns_14 rfl rfl ?_
      obtain ⟨x1, h1, h⟩ := zbd h
      refine V_cV 18 rfl 3 [] [] dX10_readsOwns_15 cv_X10_130 (ctX10_letter (Nat.le_refl 3) h1) (Nat.le_trans (by decide) hd) rfl rfl (Nat.le_of_ble_eq_true rfl) zoki rfl ?_
      refine V_istore 20 rfl (L' := [some (zK 10 0), some (zI v1), some (zI v2), some (zI s.1), some (zI x1.1), none, none]) dX10_readsOwns_18 (by decide) rfl ?_
      refine V_aload_n 21 rfl 0 dX10_readsOwns_20 rfl rfl ?_
      refine V_geti 24 rfl dX10_readsOwns_21 fl_X10_116 rfl ?_
      refine V_istore 26 rfl (L' := [some (zK 10 0), some (zI v1), some (zI v2), some (zI s.1), some (zI x1.1), some (zI (gi x1.2 10 0 10)), none]) dX10_readsOwns_24 (by decide) rfl ?_
      refine V_iconst 27 rfl (v := 0) dX10_readsOwns_26 (by decide) ?_
      refine V_istore 29 rfl (L' := [some (zK 10 0), some (zI v1), some (zI v2), some (zI s.1), some (zI x1.1), some (zI (gi x1.2 10 0 10)), some (zI 0)]) dX10_readsOwns_27 (by decide) rfl ?_
      obtain ⟨o17, h1, h⟩ := zbd h
      refine V_w (zsub_s (zsub_s (zsub_s (zsub_n (zsub_s (zsub_s (zsub_s zsub_0))))))) (wX10_readsOwns_L29 hd h1 (fun y5 e => ?_))
      have h := zcl_ e h
      refine V_aload_n 77 rfl 0 dX10_readsOwns_76 rfl rfl ?_
      obtain ⟨x7, h1, h⟩ := zbd h
      refine V_cV 80 rfl 0 [] [] dX10_readsOwns_77 cv_X10_81 (ctX10_isRight (Nat.le_refl 0) h1) (Nat.le_trans (by decide) hd) rfl rfl (Nat.le_of_ble_eq_true rfl) zoki rfl ?_
      refine V_if_eq 83 101 rfl dX10_readsOwns_80 (by decide) (fun c => ?_) (fun c => ?_)
      · have h := zpos c h
        exact V_w (zsub_s (zsub_s (zsub_s (zsub_s (zsub_s (zsub_n (zsub_s zsub_0))))))) (wX10_readsOwns_J101 hd h kc ke kr)
      · have h := zneg c h
        refine V_aload_n 84 rfl 0 dX10_readsOwns_83 rfl rfl ?_
        refine V_getr 87 rfl 39 0 dX10_readsOwns_84 fl_X10_15 rfl rfl rfl ?_
        refine V_iload_n 88 rfl 2 dX10_readsOwns_87 rfl rfl ?_
        obtain ⟨hi, h⟩ := zobd h
        refine V_iald 89 rfl dX10_readsOwns_88 rfl hi ?_
        refine V_bipush 91 rfl (v := 8) dX10_readsOwns_89 (by decide) ?_
        refine V_icmp_ne 94 101 rfl dX10_readsOwns_91 (by decide) (fun c => ?_) (fun c => ?_)
        · have h := zneg c h
          exact V_w (zsub_s (zsub_s (zsub_s (zsub_s (zsub_s (zsub_n (zsub_s zsub_0))))))) (wX10_readsOwns_J101 hd h kc ke kr)
        · have h := zpos c h
          refine V_aload_n 95 rfl 0 dX10_readsOwns_94 rfl rfl ?_
          refine V_iconst 96 rfl (v := 3) dX10_readsOwns_95 (by decide) ?_
          refine V_iload 98 rfl dX10_readsOwns_96 rfl ?_
          obtain ⟨x16, h1, h⟩ := zbd h
          refine V_cV 101 rfl 1 [zI 3, zI (gi x1.2 10 0 10)] [] dX10_readsOwns_98 cv_X10_112 (ctX10_fails (Nat.le_refl 1) h1) (Nat.le_trans (by decide) hd) rfl rfl (Nat.le_of_ble_eq_true rfl) zokn rfl ?_
          exact V_w (zsub_s (zsub_s (zsub_s (zsub_s (zsub_s (zsub_n (zsub_s zsub_0))))))) (wX10_readsOwns_J101 hd h kc ke kr)
theorem wX10_readsOwns {E : zE} {d : Nat} (hd : 9 ≤ d) {Q : Option zV → zM → Prop} {v1 : Int32} {mm : zM} {o : zM} (h : fX10_readsOwns v1 mm = some o) (hQ : ∀ r, o = r → Q none r) : V E RX10 cX10_readsOwns 7 none d Q 0 [some (zK 10 0), some (zI v1), none, none, none, none, none] [] mm := by
  unfold fX10_readsOwns at h
  refine V_bipush 2 rfl (v := 113) dX10_readsOwns_0 (by decide) ?_
  refine V_iload_n 3 rfl 1 dX10_readsOwns_2 rfl rfl ?_
  refine V_imul 4 rfl dX10_readsOwns_3 ?_
  refine V_bipush 6 rfl (v := 64) dX10_readsOwns_4 (by decide) ?_
  refine V_iadd 7 rfl dX10_readsOwns_6 ?_
  refine V_istore_n 8 rfl 2 (L' := [some (zK 10 0), some (zI v1), some (zI (((113 * v1)) + 64)), none, none, none, none]) dX10_readsOwns_7 rfl (by decide) rfl ?_
  refine V_iconst 9 rfl (v := 1) dX10_readsOwns_8 (by decide) ?_
  refine V_istore_n 10 rfl 3 (L' := [some (zK 10 0), some (zI v1), some (zI (((113 * v1)) + 64)), some (zI 1), none, none, none]) dX10_readsOwns_9 rfl (by decide) rfl ?_
  obtain ⟨o20, h1, h⟩ := zbd h
  refine wX10_readsOwns_L10 hd h1 (fun y18 e => ?_) (fun r e => by have h := zcr_ e h; exact hQ r (zinj h))
  have h := zcl_ e h
  exact V_vret dX10_readsOwns_201 rfl (hQ y18 (zinj h))
theorem ctX10_readsOwns {E : zE} {d : Nat} (hd : 9 ≤ d) {v1 : Int32} {mm : zM} {o : zM} (h : fX10_readsOwns v1 mm = some o) : zOC E yX10_readsOwns cX10_readsOwns 7 none d [zK 10 0, zI v1] mm none o :=
  zCT_of (by decide) (Nat.le_of_ble_eq_true rfl) (zk_k (zk_i zk_0)) rfl (wX10_readsOwns hd h (fun r e => ⟨rfl, by rw [e]⟩))
def fX10_useAt (v0 : Int32) (v1 : Int32) (mm : zM) : Option Int32 :=
  some ((((((((113 * v0)) + 7)) + 1)) + ((14 * v1))))
theorem wX10_useAt {E : zE} {d : Nat} (hd : 0 ≤ d) {Q : Option zV → zM → Prop} {v0 : Int32} {v1 : Int32} {mm : zM} {o : Int32} (h : fX10_useAt v0 v1 mm = some o) (hQ : ∀ r, o = r → Q (some (zI r)) mm) : V E RX10 cX10_useAt 2 (some .int) d Q 0 [some (zI v0), some (zI v1)] [] mm := by
  unfold fX10_useAt at h
  refine V_bipush 2 rfl (v := 113) dX10_useAt_0 (by decide) ?_
  refine V_iload_n 3 rfl 0 dX10_useAt_2 rfl rfl ?_
  refine V_imul 4 rfl dX10_useAt_3 ?_
  refine V_bipush 6 rfl (v := 7) dX10_useAt_4 (by decide) ?_
  refine V_iadd 7 rfl dX10_useAt_6 ?_
  refine V_iconst 8 rfl (v := 1) dX10_useAt_7 (by decide) ?_
  refine V_iadd 9 rfl dX10_useAt_8 ?_
  refine V_bipush 11 rfl (v := 14) dX10_useAt_9 (by decide) ?_
  refine V_iload_n 12 rfl 1 dX10_useAt_11 rfl rfl ?_
  refine V_imul 13 rfl dX10_useAt_12 ?_
  refine V_iadd 14 rfl dX10_useAt_13 ?_
  exact V_iret dX10_useAt_14 rfl (hQ ((((((((113 * v0)) + 7)) + 1)) + ((14 * v1)))) (zinj h))
theorem ctX10_useAt {E : zE} {d : Nat} (hd : 0 ≤ d) {v0 : Int32} {v1 : Int32} {mm : zM} {o : Int32} (h : fX10_useAt v0 v1 mm = some o) : zOC E yX10_useAt cX10_useAt 2 (some .int) d [zI v0, zI v1] mm (some (zI o)) mm :=
  zCT_of (by decide) (Nat.le_of_ble_eq_true rfl) (zk_i (zk_i zk_0)) rfl (wX10_useAt hd h (fun r e => ⟨by rw [e], rfl⟩))
def fX10_named_J14 (mm : zM) : Option (Int32 × zM) :=
  (fX10_fails 1 ((gi mm 10 0 8)) mm).bind (fun x2 => some ((0, x2)))
def fX10_named_L70 (v2 : Int32) (v3 : Int32) (v4 : Int32) (v5 : Int32) (mm : zM) (s : (Int32 × Int32)) : Option ((Int32 × Int32) ⊕ (Int32 ⊕ Empty)) :=
  if v4 ≤ s.2 then (some (.inr (.inl s.1))) else (if s.1 = 0 then (some (.inr (.inl s.1))) else (zob (zin ((v2 + ((v3 * s.2)))) 1357) (if (gi mm 39 0 (zn ((v2 + ((v3 * s.2)))))) = v5 then (some (.inl (0, (s.2 + 1)))) else (some (.inl (1, (s.2 + 1)))))))
def fX10_named_J143 (v5 : Int32) (mm : zM) : Option (Int32 × zM) :=
  some ((v5, (wi mm 10 0 8 ((((gi mm 10 0 8)) + 1)))))
def fX10_named_J65 (v2 : Int32) (v3 : Int32) (v4 : Int32) (v5 : Int32) (s0 : Int32) (mm : zM) : Option (Int32 × zM) :=
  (zloop (fX10_named_L70 v2 v3 v4 v5 mm) zF (s0, 0)).bind (fun o10 => zcase o10 (fun y6 => if y6 = 0 then ((fX10_fails 2 ((gi mm 10 0 8)) mm).bind (fun x9 => fX10_named_J143 v5 x9)) else (if v4 = 4 then ((fX10_fails 3 ((gi mm 10 0 8)) mm).bind (fun x8 => fX10_named_J143 v5 x8)) else (fX10_named_J143 v5 mm))) (fun r7 => r7.elim))
def fX10_named_J64 (v2 : Int32) (v3 : Int32) (v4 : Int32) (v5 : Int32) (mm : zM) : Option (Int32 × zM) :=
  fX10_named_J65 v2 v3 v4 v5 0 mm
def fX10_named (v1 : Int32) (v2 : Int32) (v3 : Int32) (v4 : Int32) (mm : zM) : Option (Int32 × zM) :=
  (fX10_isRight mm).bind (fun x1 => if x1 = 0 then (fX10_named_J14  mm) else ((fX10_isCapital mm).bind (fun x3 => if x3.1 = 0 then (fX10_named_J14  x3.2) else ((fX10_sign x3.2).bind (fun x4 => (fX10_unitOf ((x4 - 65)) x3.2).bind (fun x5 => if x5 = (-1) then (fX10_named_J64 v2 v3 v4 x5 x3.2) else (zob (zin ((((113 * x5)) + 0)) 1357) (if (gi x3.2 39 0 (zn ((((113 * x5)) + 0)))) = v1 then (fX10_named_J65 v2 v3 v4 x5 1 x3.2) else (fX10_named_J64 v2 v3 v4 x5 x3.2)))))))))
theorem wX10_named_J14 {E : zE} {d : Nat} (hd : 3 ≤ d) {Q : Option zV → zM → Prop} {mm : zM} {o : (Int32 × zM)} (h : fX10_named_J14  mm = some o) (hQ : ∀ r, o = r → Q (some (zI r.1)) r.2) : V E RX10 cX10_named 8 (some .int) d Q 14 [some (zK 10 0), none, none, none, none, none, none, none] [] mm := by
  unfold fX10_named_J14 at h
  refine V_aload_n 15 rfl 0 dX10_named_14 rfl rfl ?_
  refine V_iconst 16 rfl (v := 1) dX10_named_15 (by decide) ?_
  refine V_aload_n 17 rfl 0 dX10_named_16 rfl rfl ?_
  refine V_geti 20 rfl dX10_named_17 fl_X10_71 rfl ?_
  obtain ⟨x2, h1, h⟩ := zbd h
  refine V_cV 23 rfl 1 [zI 1, zI (gi mm 10 0 8)] [] dX10_named_20 cv_X10_112 (ctX10_fails (Nat.le_refl 1) h1) (Nat.le_trans (by decide) hd) rfl rfl (Nat.le_of_ble_eq_true rfl) zokn rfl ?_
  refine V_iconst 24 rfl (v := 0) dX10_named_23 (by decide) ?_
  exact V_iret dX10_named_24 rfl (hQ ((0, x2)) (zinj h))
theorem wX10_named_L70 {E : zE} {d : Nat} (hd : 3 ≤ d) {Q : Option zV → zM → Prop} {v2 : Int32} {v3 : Int32} {v4 : Int32} {v5 : Int32} {mm : zM} {n : Nat} {s : (Int32 × Int32)} {o : Int32 ⊕ Empty} (h : zloop (fX10_named_L70 v2 v3 v4 v5 mm) n s = some o) (he : ∀ y : Int32, o = .inl y → V E RX10 cX10_named 8 (some .int) d Q 111 [some (zK 10 0), none, none, none, some (zI v4), some (zI v5), some (zI y), none] [] mm) : V E RX10 cX10_named 8 (some .int) d Q 70 [some (zK 10 0), none, some (zI v2), some (zI v3), some (zI v4), some (zI v5), some (zI s.1), some (zI s.2)] [] mm := by
  induction n generalizing s with
  | zero => exact (zloop_0 h).elim
  | succ n ih =>
    obtain ⟨o1, h1, hc1, he1⟩ := zloop_s h
    have kc : ∀ s' : (Int32 × Int32), o1 = .inl s' → V E RX10 cX10_named 8 (some .int) d Q 70 [some (zK 10 0), none, some (zI v2), some (zI v3), some (zI v4), some (zI v5), some (zI s'.1), some (zI s'.2)] [] mm := fun s' e => ih (hc1 s' e)
    have ke : ∀ y : Int32, o1 = .inr (.inl y) → V E RX10 cX10_named 8 (some .int) d Q 111 [some (zK 10 0), none, none, none, some (zI v4), some (zI v5), some (zI y), none] [] mm := fun y e => he y (he1 _ e)
    clear h hc1 he1 ih
    have h := h1
    clear h1
    unfold fX10_named_L70 at h
    refine V_iload 72 rfl dX10_named_70 rfl ?_
    refine V_iload 74 rfl dX10_named_72 rfl ?_
    refine V_icmp_ge 77 111 rfl dX10_named_74 (by decide) (fun c => ?_) (fun c => ?_)
    · have h := zpos c h
      exact V_w (zsub_s (zsub_s (zsub_n (zsub_n (zsub_s (zsub_s (zsub_s (zsub_n zsub_0)))))))) (ke s.1 (zinj h))
    · have h := zneg c h
      refine V_iload 79 rfl dX10_named_77 rfl ?_
      refine V_if_eq 82 111 rfl dX10_named_79 (by decide) (fun c => ?_) (fun c => ?_)
      · have h := zpos c h
        exact V_w (zsub_s (zsub_s (zsub_n (zsub_n (zsub_s (zsub_s (zsub_s (zsub_n zsub_0)))))))) (ke s.1 (zinj h))
      · have h := zneg c h
        refine V_aload_n 83 rfl 0 dX10_named_82 rfl rfl ?_
        refine V_getr 86 rfl 39 0 dX10_named_83 fl_X10_15 rfl rfl rfl ?_
        refine V_iload_n 87 rfl 2 dX10_named_86 rfl rfl ?_
        refine V_iload_n 88 rfl 3 dX10_named_87 rfl rfl ?_
        refine V_iload 90 rfl dX10_named_88 rfl ?_
        refine V_imul 91 rfl dX10_named_90 ?_
        refine V_iadd 92 rfl dX10_named_91 ?_
        obtain ⟨hi, h⟩ := zobd h
        refine V_iald 93 rfl dX10_named_92 rfl hi ?_
        refine V_iload 95 rfl dX10_named_93 rfl ?_
        refine V_icmp_eq 98 102 rfl dX10_named_95 (by decide) (fun c => ?_) (fun c => ?_)
        · have h := zpos c h
          refine V_iconst 103 rfl (v := 0) dX10_named_102 (by decide) ?_
          refine V_istore 105 rfl (L' := [some (zK 10 0), none, some (zI v2), some (zI v3), some (zI v4), some (zI v5), some (zI 0), some (zI s.2)]) dX10_named_103 (by decide) rfl ?_
          refine V_iinc 108 rfl (s.2 + 1) (L' := [some (zK 10 0), none, some (zI v2), some (zI v3), some (zI v4), some (zI v5), some (zI 0), some (zI (s.2 + 1))]) dX10_named_105 rfl rfl (by decide) rfl ?_
          refine V_goto 70 dX10_named_108 (by decide) ?_
          exact kc (0, (s.2 + 1)) (zinj h)
        · have h := zneg c h
          refine V_iconst 99 rfl (v := 1) dX10_named_98 (by decide) ?_
          refine V_goto 103 dX10_named_99 (by decide) ?_
          refine V_istore 105 rfl (L' := [some (zK 10 0), none, some (zI v2), some (zI v3), some (zI v4), some (zI v5), some (zI 1), some (zI s.2)]) dX10_named_103 (by decide) rfl ?_
          refine V_iinc 108 rfl (s.2 + 1) (L' := [some (zK 10 0), none, some (zI v2), some (zI v3), some (zI v4), some (zI v5), some (zI 1), some (zI (s.2 + 1))]) dX10_named_105 rfl rfl (by decide) rfl ?_
          refine V_goto 70 dX10_named_108 (by decide) ?_
          exact kc (1, (s.2 + 1)) (zinj h)
theorem wX10_named_J143 {E : zE} {d : Nat} (hd : 3 ≤ d) {Q : Option zV → zM → Prop} {v5 : Int32} {mm : zM} {o : (Int32 × zM)} (h : fX10_named_J143 v5 mm = some o) (hQ : ∀ r, o = r → Q (some (zI r.1)) r.2) : V E RX10 cX10_named 8 (some .int) d Q 143 [some (zK 10 0), none, none, none, none, some (zI v5), none, none] [] mm := by
  unfold fX10_named_J143 at h
  refine V_aload_n 144 rfl 0 dX10_named_143 rfl rfl ?_
  refine V_dup 145 rfl dX10_named_144 rfl ?_
  refine V_geti 148 rfl dX10_named_145 fl_X10_71 rfl ?_
  refine V_iconst 149 rfl (v := 1) dX10_named_148 (by decide) ?_
  refine V_iadd 150 rfl dX10_named_149 ?_
  refine V_puti 153 rfl dX10_named_150 fw_X10_71 rfl rfl rfl ?_
  refine V_iload 155 rfl dX10_named_153 rfl ?_
  exact V_iret dX10_named_155 rfl (hQ ((v5, (wi mm 10 0 8 ((((gi mm 10 0 8)) + 1))))) (zinj h))
theorem wX10_named_J65 {E : zE} {d : Nat} (hd : 3 ≤ d) {Q : Option zV → zM → Prop} {v2 : Int32} {v3 : Int32} {v4 : Int32} {v5 : Int32} {s0 : Int32} {mm : zM} {o : (Int32 × zM)} (h : fX10_named_J65 v2 v3 v4 v5 s0 mm = some o) (hQ : ∀ r, o = r → Q (some (zI r.1)) r.2) : V E RX10 cX10_named 8 (some .int) d Q 65 [some (zK 10 0), none, some (zI v2), some (zI v3), some (zI v4), some (zI v5), none, none] [zI s0] mm := by
  unfold fX10_named_J65 at h
  refine V_istore 67 rfl (L' := [some (zK 10 0), none, some (zI v2), some (zI v3), some (zI v4), some (zI v5), some (zI s0), none]) dX10_named_65 (by decide) rfl ?_
  refine V_iconst 68 rfl (v := 0) dX10_named_67 (by decide) ?_
  refine V_istore 70 rfl (L' := [some (zK 10 0), none, some (zI v2), some (zI v3), some (zI v4), some (zI v5), some (zI s0), some (zI 0)]) dX10_named_68 (by decide) rfl ?_
  obtain ⟨o10, h1, h⟩ := zbd h
  refine wX10_named_L70 hd h1 (fun y6 e => ?_)
  have h := zcl_ e h
  refine V_iload 113 rfl dX10_named_111 rfl ?_
  refine V_if_ne 116 128 rfl dX10_named_113 (by decide) (fun c => ?_) (fun c => ?_)
  · have h := zneg c h
    refine V_iload 130 rfl dX10_named_128 rfl ?_
    refine V_iconst 131 rfl (v := 4) dX10_named_130 (by decide) ?_
    refine V_icmp_ne 134 143 rfl dX10_named_131 (by decide) (fun c => ?_) (fun c => ?_)
    · have h := zneg c h
      exact V_w (zsub_s (zsub_s (zsub_s (zsub_s (zsub_n (zsub_s (zsub_n (zsub_s zsub_0)))))))) (wX10_named_J143 hd h hQ)
    · have h := zpos c h
      refine V_aload_n 135 rfl 0 dX10_named_134 rfl rfl ?_
      refine V_iconst 136 rfl (v := 3) dX10_named_135 (by decide) ?_
      refine V_aload_n 137 rfl 0 dX10_named_136 rfl rfl ?_
      refine V_geti 140 rfl dX10_named_137 fl_X10_71 rfl ?_
      obtain ⟨x8, h1, h⟩ := zbd h
      refine V_cV 143 rfl 1 [zI 3, zI (gi mm 10 0 8)] [] dX10_named_140 cv_X10_112 (ctX10_fails (Nat.le_refl 1) h1) (Nat.le_trans (by decide) hd) rfl rfl (Nat.le_of_ble_eq_true rfl) zokn rfl ?_
      exact V_w (zsub_s (zsub_s (zsub_s (zsub_s (zsub_n (zsub_s (zsub_n (zsub_s zsub_0)))))))) (wX10_named_J143 hd h hQ)
  · have h := zpos c h
    refine V_aload_n 117 rfl 0 dX10_named_116 rfl rfl ?_
    refine V_iconst 118 rfl (v := 2) dX10_named_117 (by decide) ?_
    refine V_aload_n 119 rfl 0 dX10_named_118 rfl rfl ?_
    refine V_geti 122 rfl dX10_named_119 fl_X10_71 rfl ?_
    obtain ⟨x9, h1, h⟩ := zbd h
    refine V_cV 125 rfl 1 [zI 2, zI (gi mm 10 0 8)] [] dX10_named_122 cv_X10_112 (ctX10_fails (Nat.le_refl 1) h1) (Nat.le_trans (by decide) hd) rfl rfl (Nat.le_of_ble_eq_true rfl) zokn rfl ?_
    refine V_goto 143 dX10_named_125 (by decide) ?_
    exact V_w (zsub_s (zsub_s (zsub_s (zsub_s (zsub_n (zsub_s (zsub_n (zsub_s zsub_0)))))))) (wX10_named_J143 hd h hQ)
theorem wX10_named_J64 {E : zE} {d : Nat} (hd : 3 ≤ d) {Q : Option zV → zM → Prop} {v2 : Int32} {v3 : Int32} {v4 : Int32} {v5 : Int32} {mm : zM} {o : (Int32 × zM)} (h : fX10_named_J64 v2 v3 v4 v5 mm = some o) (hQ : ∀ r, o = r → Q (some (zI r.1)) r.2) : V E RX10 cX10_named 8 (some .int) d Q 64 [some (zK 10 0), none, some (zI v2), some (zI v3), some (zI v4), some (zI v5), none, none] [] mm := by
  unfold fX10_named_J64 at h
  refine V_iconst 65 rfl (v := 0) dX10_named_64 (by decide) ?_
  exact wX10_named_J65 hd h hQ
theorem wX10_named {E : zE} {d : Nat} (hd : 3 ≤ d) {Q : Option zV → zM → Prop} {v1 : Int32} {v2 : Int32} {v3 : Int32} {v4 : Int32} {mm : zM} {o : (Int32 × zM)} (h : fX10_named v1 v2 v3 v4 mm = some o) (hQ : ∀ r, o = r → Q (some (zI r.1)) r.2) : V E RX10 cX10_named 8 (some .int) d Q 0 [some (zK 10 0), some (zI v1), some (zI v2), some (zI v3), some (zI v4), none, none, none] [] mm := by
  unfold fX10_named at h
  refine V_aload_n 1 rfl 0 dX10_named_0 rfl rfl ?_
  obtain ⟨x1, h1, h⟩ := zbd h
  refine V_cV 4 rfl 0 [] [] dX10_named_1 cv_X10_81 (ctX10_isRight (Nat.le_refl 0) h1) (Nat.le_trans (by decide) hd) rfl rfl (Nat.le_of_ble_eq_true rfl) zoki rfl ?_
  refine V_if_eq 7 14 rfl dX10_named_4 (by decide) (fun c => ?_) (fun c => ?_)
  · have h := zpos c h
    exact V_w (zsub_s (zsub_n (zsub_n (zsub_n (zsub_n (zsub_s (zsub_s (zsub_s zsub_0)))))))) (wX10_named_J14 hd h hQ)
  · have h := zneg c h
    refine V_aload_n 8 rfl 0 dX10_named_7 rfl rfl ?_
    obtain ⟨x3, h1, h⟩ := zbd h
    refine V_cV 11 rfl 2 [] [] dX10_named_8 cv_X10_119 (ctX10_isCapital (Nat.le_refl 2) h1) (Nat.le_trans (by decide) hd) rfl rfl (Nat.le_of_ble_eq_true rfl) zoki rfl ?_
    refine V_if_ne 14 25 rfl dX10_named_11 (by decide) (fun c => ?_) (fun c => ?_)
    · have h := zneg c h
      refine V_aload_n 26 rfl 0 dX10_named_25 rfl rfl ?_
      refine V_aload_n 27 rfl 0 dX10_named_26 rfl rfl ?_
      obtain ⟨x4, h1, h⟩ := zbd h
      refine V_cV 30 rfl 0 [] [zK 10 0] dX10_named_27 cv_X10_74 (ctX10_sign (Nat.le_refl 0) h1) (Nat.le_trans (by decide) hd) rfl rfl (Nat.le_of_ble_eq_true rfl) zoki rfl ?_
      refine V_bipush 32 rfl (v := 65) dX10_named_30 (by decide) ?_
      refine V_isub 33 rfl dX10_named_32 ?_
      obtain ⟨x5, h1, h⟩ := zbd h
      refine V_cV 36 rfl 0 [zI (x4 - 65)] [] dX10_named_33 cv_X10_122 (ctX10_unitOf (Nat.le_refl 0) h1) (Nat.le_trans (by decide) hd) rfl rfl (Nat.le_of_ble_eq_true rfl) zoki rfl ?_
      refine V_istore 38 rfl (L' := [some (zK 10 0), some (zI v1), some (zI v2), some (zI v3), some (zI v4), some (zI x5), none, none]) dX10_named_36 (by decide) rfl ?_
      refine V_iload 40 rfl dX10_named_38 rfl ?_
      refine V_iconst 41 rfl (v := (-1)) dX10_named_40 (by decide) ?_
      refine V_icmp_eq 44 64 rfl dX10_named_41 (by decide) (fun c => ?_) (fun c => ?_)
      · have h := zpos c h
        exact V_w (zsub_s (zsub_n (zsub_s (zsub_s (zsub_s (zsub_s (zsub_s (zsub_s zsub_0)))))))) (wX10_named_J64 hd h hQ)
      · have h := zneg c h
        refine V_aload_n 45 rfl 0 dX10_named_44 rfl rfl ?_
        refine V_getr 48 rfl 39 0 dX10_named_45 fl_X10_15 rfl rfl rfl ?_
        refine V_bipush 50 rfl (v := 113) dX10_named_48 (by decide) ?_
        refine V_iload 52 rfl dX10_named_50 rfl ?_
        refine V_imul 53 rfl dX10_named_52 ?_
        refine V_iconst 54 rfl (v := 0) dX10_named_53 (by decide) ?_
        refine V_iadd 55 rfl dX10_named_54 ?_
        obtain ⟨hi, h⟩ := zobd h
        refine V_iald 56 rfl dX10_named_55 rfl hi ?_
        refine V_iload_n 57 rfl 1 dX10_named_56 rfl rfl ?_
        refine V_icmp_ne 60 64 rfl dX10_named_57 (by decide) (fun c => ?_) (fun c => ?_)
        · have h := zneg c h
          exact V_w (zsub_s (zsub_n (zsub_s (zsub_s (zsub_s (zsub_s (zsub_s (zsub_s zsub_0)))))))) (wX10_named_J64 hd h hQ)
        · have h := zpos c h
          refine V_iconst 61 rfl (v := 1) dX10_named_60 (by decide) ?_
          refine V_goto 65 dX10_named_61 (by decide) ?_
          exact V_w (zsub_s (zsub_n (zsub_s (zsub_s (zsub_s (zsub_s (zsub_s (zsub_s zsub_0)))))))) (wX10_named_J65 hd h hQ)
    · have h := zpos c h
      exact V_w (zsub_s (zsub_n (zsub_n (zsub_n (zsub_n (zsub_s (zsub_s (zsub_s zsub_0)))))))) (wX10_named_J14 hd h hQ)
theorem ctX10_named {E : zE} {d : Nat} (hd : 3 ≤ d) {v1 : Int32} {v2 : Int32} {v3 : Int32} {v4 : Int32} {mm : zM} {o : (Int32 × zM)} (h : fX10_named v1 v2 v3 v4 mm = some o) : zOC E yX10_named cX10_named 8 (some .int) d [zK 10 0, zI v1, zI v2, zI v3, zI v4] mm (some (zI o.1)) o.2 :=
  zCT_of (by decide) (Nat.le_of_ble_eq_true rfl) (zk_k (zk_i (zk_i (zk_i (zk_i zk_0))))) rfl (wX10_named hd h (fun r e => ⟨by rw [e], by rw [e]⟩))
