def fX9_putBytes_L3 (v1 : Int32) (s : (Int32 × zM)) : Option ((Int32 × zM) ⊕ (zM ⊕ Empty)) :=
  if s.1 < 0 then (some (.inr (.inl s.2))) else (if 400 ≤ (gi s.2 9 0 1) then (some (.inr (.inl s.2))) else (zob (zin ((gi s.2 9 0 1)) 400) (some (.inl ((s.1 + (-8)), (wi ((wi s.2 36 0 (zn ((gi s.2 9 0 1))) ((((v1.toUInt32 >>> ((s.1 : Int32).toUInt32 &&& Int32.toUInt32 31)).toInt32 : Int32).toInt8.toInt32 : Int32).toInt8.toInt32))) 9 0 1 ((((gi ((wi s.2 36 0 (zn ((gi s.2 9 0 1))) ((((v1.toUInt32 >>> ((s.1 : Int32).toUInt32 &&& Int32.toUInt32 31)).toInt32 : Int32).toInt8.toInt32 : Int32).toInt8.toInt32))) 9 0 1)) + 1))))))))
def fX9_putBytes (v1 : Int32) (mm : zM) : Option zM :=
  (zloop (fX9_putBytes_L3 v1) zF (24, mm)).bind (fun o3 => zcase o3 (fun y1 => some y1) (fun r2 => r2.elim))
theorem wX9_putBytes_L3 {E : zE} {d : Nat} (hd : 0 ≤ d) {Q : Option zV → zM → Prop} {v1 : Int32} {n : Nat} {s : (Int32 × zM)} {o : zM ⊕ Empty} (h : zloop (fX9_putBytes_L3 v1) n s = some o) (he : ∀ y : zM, o = .inl y → V E RX9 cX9_putBytes 3 none d Q 46 [none, none, none] [] y) : V E RX9 cX9_putBytes 3 none d Q 3 [some (zK 9 0), some (zI v1), some (zI s.1)] [] s.2 := by
  induction n generalizing s with
  | zero => exact (zloop_0 h).elim
  | succ n ih =>
    obtain ⟨o1, h1, hc1, he1⟩ := zloop_s h
    have kc : ∀ s' : (Int32 × zM), o1 = .inl s' → V E RX9 cX9_putBytes 3 none d Q 3 [some (zK 9 0), some (zI v1), some (zI s'.1)] [] s'.2 := fun s' e => ih (hc1 s' e)
    have ke : ∀ y : zM, o1 = .inr (.inl y) → V E RX9 cX9_putBytes 3 none d Q 46 [none, none, none] [] y := fun y e => he y (he1 _ e)
    clear h hc1 he1 ih
    have h := h1
    clear h1
    unfold fX9_putBytes_L3 at h
    refine V_iload_n 4 rfl 2 dX9_putBytes_3 rfl rfl ?_
    refine V_if_lt 7 46 rfl dX9_putBytes_4 (by decide) (fun c => ?_) (fun c => ?_)
    · have h := zpos c h
      exact V_w (zsub_n (zsub_n (zsub_n zsub_0))) (ke s.2 (zinj h))
    · have h := zneg c h
      refine V_aload_n 8 rfl 0 dX9_putBytes_7 rfl rfl ?_
      refine V_geti 11 rfl dX9_putBytes_8 fl_X9_69 rfl ?_
      refine V_sipush 14 rfl (v := 400) dX9_putBytes_11 (by decide) ?_
      refine V_icmp_ge 17 46 rfl dX9_putBytes_14 (by decide) (fun c => ?_) (fun c => ?_)
      · have h := zpos c h
        exact V_w (zsub_n (zsub_n (zsub_n zsub_0))) (ke s.2 (zinj h))
      · have h := zneg c h
        refine V_aload_n 18 rfl 0 dX9_putBytes_17 rfl rfl ?_
        refine V_getr 21 rfl 36 0 dX9_putBytes_18 fl_X9_9 rfl rfl rfl ?_
        refine V_aload_n 22 rfl 0 dX9_putBytes_21 rfl rfl ?_
        refine V_geti 25 rfl dX9_putBytes_22 fl_X9_69 rfl ?_
        refine V_iload_n 26 rfl 1 dX9_putBytes_25 rfl rfl ?_
        refine V_iload_n 27 rfl 2 dX9_putBytes_26 rfl rfl ?_
        refine V_iushr 28 rfl dX9_putBytes_27 ?_
        refine V_i2b 29 rfl dX9_putBytes_28 ?_
        obtain ⟨hi, h⟩ := zobd h
        refine V_bast 30 rfl dX9_putBytes_29 rfl hi ?_
        refine V_aload_n 31 rfl 0 dX9_putBytes_30 rfl rfl ?_
        refine V_dup 32 rfl dX9_putBytes_31 rfl ?_
        refine V_geti 35 rfl dX9_putBytes_32 fl_X9_69 rfl ?_
        refine V_iconst 36 rfl (v := 1) dX9_putBytes_35 (by decide) ?_
        refine V_iadd 37 rfl dX9_putBytes_36 ?_
        refine V_puti 40 rfl dX9_putBytes_37 fw_X9_69 rfl rfl rfl ?_
        refine V_iinc 43 rfl (s.1 + (-8)) (L' := [some (zK 9 0), some (zI v1), some (zI (s.1 + (-8)))]) dX9_putBytes_40 rfl rfl (by decide) rfl ?_
        refine V_goto 3 dX9_putBytes_43 (by decide) ?_
        exact kc ((s.1 + (-8)), (wi ((wi s.2 36 0 (zn ((gi s.2 9 0 1))) ((((v1.toUInt32 >>> ((s.1 : Int32).toUInt32 &&& Int32.toUInt32 31)).toInt32 : Int32).toInt8.toInt32 : Int32).toInt8.toInt32))) 9 0 1 ((((gi ((wi s.2 36 0 (zn ((gi s.2 9 0 1))) ((((v1.toUInt32 >>> ((s.1 : Int32).toUInt32 &&& Int32.toUInt32 31)).toInt32 : Int32).toInt8.toInt32 : Int32).toInt8.toInt32))) 9 0 1)) + 1)))) (zinj h)
theorem wX9_putBytes {E : zE} {d : Nat} (hd : 0 ≤ d) {Q : Option zV → zM → Prop} {v1 : Int32} {mm : zM} {o : zM} (h : fX9_putBytes v1 mm = some o) (hQ : ∀ r, o = r → Q none r) : V E RX9 cX9_putBytes 3 none d Q 0 [some (zK 9 0), some (zI v1), none] [] mm := by
  unfold fX9_putBytes at h
  refine V_bipush 2 rfl (v := 24) dX9_putBytes_0 (by decide) ?_
  refine V_istore_n 3 rfl 2 (L' := [some (zK 9 0), some (zI v1), some (zI 24)]) dX9_putBytes_2 rfl (by decide) rfl ?_
  obtain ⟨o3, h1, h⟩ := zbd h
  refine wX9_putBytes_L3 hd h1 (fun y1 e => ?_)
  have h := zcl_ e h
  exact V_vret dX9_putBytes_46 rfl (hQ y1 (zinj h))
theorem ctX9_putBytes {E : zE} {d : Nat} (hd : 0 ≤ d) {v1 : Int32} {mm : zM} {o : zM} (h : fX9_putBytes v1 mm = some o) : zOC E yX9_putBytes cX9_putBytes 3 none d [zK 9 0, zI v1] mm none o :=
  zCT_of (by decide) (Nat.le_of_ble_eq_true rfl) (zk_k (zk_i zk_0)) rfl (wX9_putBytes hd h (fun r e => ⟨rfl, by rw [e]⟩))
def fX9_feed (v1 : Int32) (v2 : Int32) (v3 : Int32) (v4 : Int32) (v5 : Int32) (mm : zM) : Option (Int32 × zM) :=
  if (((gi mm 9 0 1)) + 20) ≤ 400 then ((fX9_putBytes v1 mm).bind (fun x1 => (fX9_putBytes v2 x1).bind (fun x2 => (fX9_putBytes v3 x2).bind (fun x3 => (fX9_putBytes v4 x3).bind (fun x4 => (fX9_putBytes v5 x4).bind (fun x5 => some (((gi x5 9 0 1), x5)))))))) else (some (((-1), mm)))
theorem wX9_feed {E : zE} {d : Nat} (hd : 1 ≤ d) {Q : Option zV → zM → Prop} {v1 : Int32} {v2 : Int32} {v3 : Int32} {v4 : Int32} {v5 : Int32} {mm : zM} {o : (Int32 × zM)} (h : fX9_feed v1 v2 v3 v4 v5 mm = some o) (hQ : ∀ r, o = r → Q (some (zI r.1)) r.2) : V E RX9 cX9_feed 6 (some .int) d Q 0 [some (zK 9 0), some (zI v1), some (zI v2), some (zI v3), some (zI v4), some (zI v5)] [] mm := by
  unfold fX9_feed at h
  refine V_aload_n 1 rfl 0 dX9_feed_0 rfl rfl ?_
  refine V_geti 4 rfl dX9_feed_1 fl_X9_69 rfl ?_
  refine V_bipush 6 rfl (v := 20) dX9_feed_4 (by decide) ?_
  refine V_iadd 7 rfl dX9_feed_6 ?_
  refine V_sipush 10 rfl (v := 400) dX9_feed_7 (by decide) ?_
  refine V_icmp_le 13 15 rfl dX9_feed_10 (by decide) (fun c => ?_) (fun c => ?_)
  · have h := zpos c h
    refine V_aload_n 16 rfl 0 dX9_feed_15 rfl rfl ?_
    refine V_iload_n 17 rfl 1 dX9_feed_16 rfl rfl ?_
    obtain ⟨x1, h1, h⟩ := zbd h
    refine V_cV 20 rfl 0 [zI v1] [] dX9_feed_17 cv_X9_73 (ctX9_putBytes (Nat.le_refl 0) h1) (Nat.le_trans (by decide) hd) rfl rfl (Nat.le_of_ble_eq_true rfl) zokn rfl ?_
    refine V_aload_n 21 rfl 0 dX9_feed_20 rfl rfl ?_
    refine V_iload_n 22 rfl 2 dX9_feed_21 rfl rfl ?_
    obtain ⟨x2, h1, h⟩ := zbd h
    refine V_cV 25 rfl 0 [zI v2] [] dX9_feed_22 cv_X9_73 (ctX9_putBytes (Nat.le_refl 0) h1) (Nat.le_trans (by decide) hd) rfl rfl (Nat.le_of_ble_eq_true rfl) zokn rfl ?_
    refine V_aload_n 26 rfl 0 dX9_feed_25 rfl rfl ?_
    refine V_iload_n 27 rfl 3 dX9_feed_26 rfl rfl ?_
    obtain ⟨x3, h1, h⟩ := zbd h
    refine V_cV 30 rfl 0 [zI v3] [] dX9_feed_27 cv_X9_73 (ctX9_putBytes (Nat.le_refl 0) h1) (Nat.le_trans (by decide) hd) rfl rfl (Nat.le_of_ble_eq_true rfl) zokn rfl ?_
    refine V_aload_n 31 rfl 0 dX9_feed_30 rfl rfl ?_
    refine V_iload 33 rfl dX9_feed_31 rfl ?_
    obtain ⟨x4, h1, h⟩ := zbd h
    refine V_cV 36 rfl 0 [zI v4] [] dX9_feed_33 cv_X9_73 (ctX9_putBytes (Nat.le_refl 0) h1) (Nat.le_trans (by decide) hd) rfl rfl (Nat.le_of_ble_eq_true rfl) zokn rfl ?_
    refine V_aload_n 37 rfl 0 dX9_feed_36 rfl rfl ?_
    refine V_iload 39 rfl dX9_feed_37 rfl ?_
    obtain ⟨x5, h1, h⟩ := zbd h
    refine V_cV 42 rfl 0 [zI v5] [] dX9_feed_39 cv_X9_73 (ctX9_putBytes (Nat.le_refl 0) h1) (Nat.le_trans (by decide) hd) rfl rfl (Nat.le_of_ble_eq_true rfl) zokn rfl ?_
    refine V_aload_n 43 rfl 0 dX9_feed_42 rfl rfl ?_
    refine V_geti 46 rfl dX9_feed_43 fl_X9_69 rfl ?_
    exact V_iret dX9_feed_46 rfl (hQ (((gi x5 9 0 1), x5)) (zinj h))
  · have h := zneg c h
    refine V_iconst 14 rfl (v := (-1)) dX9_feed_13 (by decide) ?_
    exact V_iret dX9_feed_14 rfl (hQ (((-1), mm)) (zinj h))
theorem ctX9_feed {E : zE} {d : Nat} (hd : 1 ≤ d) {v1 : Int32} {v2 : Int32} {v3 : Int32} {v4 : Int32} {v5 : Int32} {mm : zM} {o : (Int32 × zM)} (h : fX9_feed v1 v2 v3 v4 v5 mm = some o) : zOC E yX9_feed cX9_feed 6 (some .int) d [zK 9 0, zI v1, zI v2, zI v3, zI v4, zI v5] mm (some (zI o.1)) o.2 :=
  zCT_of (by decide) (Nat.le_of_ble_eq_true rfl) (zk_k (zk_i (zk_i (zk_i (zk_i (zk_i zk_0)))))) rfl (wX9_feed hd h (fun r e => ⟨by rw [e], by rw [e]⟩))
def fX9_end (v1 : Int32) (mm : zM) : Option (Int32 × zM) :=
  if v1 < 0 then (some (((-1), mm))) else (if v1 ≤ (gi mm 9 0 1) then (some ((v1, (wi mm 9 0 1 v1)))) else (some (((-1), mm))))
theorem wX9_end {E : zE} {d : Nat} (hd : 0 ≤ d) {Q : Option zV → zM → Prop} {v1 : Int32} {mm : zM} {o : (Int32 × zM)} (h : fX9_end v1 mm = some o) (hQ : ∀ r, o = r → Q (some (zI r.1)) r.2) : V E RX9 cX9_end 2 (some .int) d Q 0 [some (zK 9 0), some (zI v1)] [] mm := by
  unfold fX9_end at h
  refine V_iload_n 1 rfl 1 dX9_end_0 rfl rfl ?_
  refine V_if_lt 4 12 rfl dX9_end_1 (by decide) (fun c => ?_) (fun c => ?_)
  · have h := zpos c h
    refine V_iconst 13 rfl (v := (-1)) dX9_end_12 (by decide) ?_
    exact V_iret dX9_end_13 rfl (hQ (((-1), mm)) (zinj h))
  · have h := zneg c h
    refine V_iload_n 5 rfl 1 dX9_end_4 rfl rfl ?_
    refine V_aload_n 6 rfl 0 dX9_end_5 rfl rfl ?_
    refine V_geti 9 rfl dX9_end_6 fl_X9_69 rfl ?_
    refine V_icmp_le 12 14 rfl dX9_end_9 (by decide) (fun c => ?_) (fun c => ?_)
    · have h := zpos c h
      refine V_aload_n 15 rfl 0 dX9_end_14 rfl rfl ?_
      refine V_iload_n 16 rfl 1 dX9_end_15 rfl rfl ?_
      refine V_puti 19 rfl dX9_end_16 fw_X9_69 rfl rfl rfl ?_
      refine V_iload_n 20 rfl 1 dX9_end_19 rfl rfl ?_
      exact V_iret dX9_end_20 rfl (hQ ((v1, (wi mm 9 0 1 v1))) (zinj h))
    · have h := zneg c h
      refine V_iconst 13 rfl (v := (-1)) dX9_end_12 (by decide) ?_
      exact V_iret dX9_end_13 rfl (hQ (((-1), mm)) (zinj h))
theorem ctX9_end {E : zE} {d : Nat} (hd : 0 ≤ d) {v1 : Int32} {mm : zM} {o : (Int32 × zM)} (h : fX9_end v1 mm = some o) : zOC E yX9_end cX9_end 2 (some .int) d [zK 9 0, zI v1] mm (some (zI o.1)) o.2 :=
  zCT_of (by decide) (Nat.le_of_ble_eq_true rfl) (zk_k (zk_i zk_0)) rfl (wX9_end hd h (fun r e => ⟨by rw [e], by rw [e]⟩))
def fX4_pass_L8 (s : zM) : Option (zM ⊕ (zM ⊕ Empty)) :=
  if (gi s 4 0 1) ≤ (gi s 4 0 2) then (some (.inr (.inl s))) else (zob (gr s 4 0 == some 0) (zob (zin ((gi s 4 0 2)) 400) (if (gi s 36 0 (zn ((gi s 4 0 2)))) = 32 then (some (.inl (wi s 4 0 2 ((((gi s 4 0 2)) + 1))))) else (some (.inr (.inl s))))))
def fX4_pass_L134 (v2 : Int32) (v3 : Int32) (s : zM) : Option (zM ⊕ (zM ⊕ Empty)) :=
  if (gi s 4 0 1) ≤ (gi s 4 0 3) then (some (.inr (.inl s))) else (zob (gr s 4 0 == some 0) (zob (zin ((gi s 4 0 3)) 400) (if (gi s 36 0 (zn ((gi s 4 0 3)))) < v2 then (some (.inr (.inl s))) else (zob (gr s 4 0 == some 0) (zob (zin ((gi s 4 0 3)) 400) (if v3 < (gi s 36 0 (zn ((gi s 4 0 3)))) then (some (.inr (.inl s))) else (some (.inl (wi s 4 0 3 ((((gi s 4 0 3)) + 1)))))))))))
def fX4_pass_J133 (v2 : Int32) (s0 : Int32) (mm : zM) : Option zM :=
  (zloop (fX4_pass_L134 v2 s0) zF mm).bind (fun o5 => zcase o5 (fun y3 => if (gi y3 4 0 3) = (gi y3 4 0 2) then (some ((wi y3 4 0 3 ((((gi y3 4 0 3)) + 1))))) else (some y3)) (fun r4 => r4.elim))
def fX4_pass_J121 (v1 : Int32) (s0 : Int32) (mm : zM) : Option zM :=
  if v1 = 0 then (fX4_pass_J133 s0 57 mm) else (fX4_pass_J133 s0 122 mm)
def fX4_pass_J109 (s0 : Int32) (mm : zM) : Option zM :=
  if s0 = 0 then (fX4_pass_J121 s0 48 mm) else (fX4_pass_J121 s0 97 mm)
def fX4_pass_J108 (mm : zM) : Option zM :=
  fX4_pass_J109 0 mm
def fX4_pass (mm : zM) : Option zM :=
  (zloop (fX4_pass_L8) zF (wi mm 4 0 2 ((gi mm 4 0 3)))).bind (fun o6 => zcase o6 (fun y1 => if (gi ((wi y1 4 0 3 ((gi y1 4 0 2)))) 4 0 2) < (gi ((wi y1 4 0 3 ((gi y1 4 0 2)))) 4 0 1) then (zob (gr ((wi y1 4 0 3 ((gi y1 4 0 2)))) 4 0 == some 0) (zob (zin ((gi ((wi y1 4 0 3 ((gi y1 4 0 2)))) 4 0 2)) 400) (if (gi ((wi ((wi y1 4 0 3 ((gi y1 4 0 2)))) 4 0 4 ((gi ((wi y1 4 0 3 ((gi y1 4 0 2)))) 36 0 (zn ((gi ((wi y1 4 0 3 ((gi y1 4 0 2)))) 4 0 2))))))) 4 0 4) < 97 then (fX4_pass_J108  ((wi ((wi y1 4 0 3 ((gi y1 4 0 2)))) 4 0 4 ((gi ((wi y1 4 0 3 ((gi y1 4 0 2)))) 36 0 (zn ((gi ((wi y1 4 0 3 ((gi y1 4 0 2)))) 4 0 2)))))))) else (if 122 < (gi ((wi ((wi y1 4 0 3 ((gi y1 4 0 2)))) 4 0 4 ((gi ((wi y1 4 0 3 ((gi y1 4 0 2)))) 36 0 (zn ((gi ((wi y1 4 0 3 ((gi y1 4 0 2)))) 4 0 2))))))) 4 0 4) then (fX4_pass_J108  ((wi ((wi y1 4 0 3 ((gi y1 4 0 2)))) 4 0 4 ((gi ((wi y1 4 0 3 ((gi y1 4 0 2)))) 36 0 (zn ((gi ((wi y1 4 0 3 ((gi y1 4 0 2)))) 4 0 2)))))))) else (fX4_pass_J109 1 ((wi ((wi y1 4 0 3 ((gi y1 4 0 2)))) 4 0 4 ((gi ((wi y1 4 0 3 ((gi y1 4 0 2)))) 36 0 (zn ((gi ((wi y1 4 0 3 ((gi y1 4 0 2)))) 4 0 2)))))))))))) else (some ((wi ((wi y1 4 0 3 ((gi y1 4 0 2)))) 4 0 4 256)))) (fun r2 => r2.elim))
theorem wX4_pass_L8 {E : zE} {d : Nat} (hd : 0 ≤ d) {Q : Option zV → zM → Prop} {n : Nat} {s : zM} {o : zM ⊕ Empty} (h : zloop (fX4_pass_L8) n s = some o) (he : ∀ y : zM, o = .inl y → V E RX4 cX4_pass 4 none d Q 46 [some (zK 4 0), none, none, none] [] y) : V E RX4 cX4_pass 4 none d Q 8 [some (zK 4 0), none, none, none] [] s := by
  induction n generalizing s with
  | zero => exact (zloop_0 h).elim
  | succ n ih =>
    obtain ⟨o1, h1, hc1, he1⟩ := zloop_s h
    have kc : ∀ s' : zM, o1 = .inl s' → V E RX4 cX4_pass 4 none d Q 8 [some (zK 4 0), none, none, none] [] s' := fun s' e => ih (hc1 s' e)
    have ke : ∀ y : zM, o1 = .inr (.inl y) → V E RX4 cX4_pass 4 none d Q 46 [some (zK 4 0), none, none, none] [] y := fun y e => he y (he1 _ e)
    clear h hc1 he1 ih
    have h := h1
    clear h1
    unfold fX4_pass_L8 at h
    refine V_aload_n 9 rfl 0 dX4_pass_8 rfl rfl ?_
    refine V_geti 12 rfl dX4_pass_9 fl_X4_43 rfl ?_
    refine V_aload_n 13 rfl 0 dX4_pass_12 rfl rfl ?_
    refine V_geti 16 rfl dX4_pass_13 fl_X4_21 rfl ?_
    refine V_icmp_ge 19 46 rfl dX4_pass_16 (by decide) (fun c => ?_) (fun c => ?_)
    · have h := zpos c h
      exact ke s (zinj h)
    · have h := zneg c h
      refine V_aload_n 20 rfl 0 dX4_pass_19 rfl rfl ?_
      obtain ⟨hi, h⟩ := zobd h
      refine V_getm 23 rfl 36 dX4_pass_20 fl_X4_9 rfl rfl (eq_of_beq hi) ?_
      refine V_aload_n 24 rfl 0 dX4_pass_23 rfl rfl ?_
      refine V_geti 27 rfl dX4_pass_24 fl_X4_43 rfl ?_
      obtain ⟨hi, h⟩ := zobd h
      refine V_bald 28 rfl dX4_pass_27 rfl hi ?_
      refine V_bipush 30 rfl (v := 32) dX4_pass_28 (by decide) ?_
      refine V_icmp_ne 33 46 rfl dX4_pass_30 (by decide) (fun c => ?_) (fun c => ?_)
      · have h := zneg c h
        exact ke s (zinj h)
      · have h := zpos c h
        refine V_aload_n 34 rfl 0 dX4_pass_33 rfl rfl ?_
        refine V_dup 35 rfl dX4_pass_34 rfl ?_
        refine V_geti 38 rfl dX4_pass_35 fl_X4_43 rfl ?_
        refine V_iconst 39 rfl (v := 1) dX4_pass_38 (by decide) ?_
        refine V_iadd 40 rfl dX4_pass_39 ?_
        refine V_puti 43 rfl dX4_pass_40 fw_X4_43 rfl rfl rfl ?_
        refine V_goto 8 dX4_pass_43 (by decide) ?_
        exact kc (wi s 4 0 2 ((((gi s 4 0 2)) + 1))) (zinj h)
theorem wX4_pass_L134 {E : zE} {d : Nat} (hd : 0 ≤ d) {Q : Option zV → zM → Prop} {v2 : Int32} {v3 : Int32} {n : Nat} {s : zM} {o : zM ⊕ Empty} (h : zloop (fX4_pass_L134 v2 v3) n s = some o) (he : ∀ y : zM, o = .inl y → V E RX4 cX4_pass 4 none d Q 184 [some (zK 4 0), none, none, none] [] y) : V E RX4 cX4_pass 4 none d Q 134 [some (zK 4 0), none, some (zI v2), some (zI v3)] [] s := by
  induction n generalizing s with
  | zero => exact (zloop_0 h).elim
  | succ n ih =>
    obtain ⟨o1, h1, hc1, he1⟩ := zloop_s h
    have kc : ∀ s' : zM, o1 = .inl s' → V E RX4 cX4_pass 4 none d Q 134 [some (zK 4 0), none, some (zI v2), some (zI v3)] [] s' := fun s' e => ih (hc1 s' e)
    have ke : ∀ y : zM, o1 = .inr (.inl y) → V E RX4 cX4_pass 4 none d Q 184 [some (zK 4 0), none, none, none] [] y := fun y e => he y (he1 _ e)
    clear h hc1 he1 ih
    have h := h1
    clear h1
    unfold fX4_pass_L134 at h
    refine V_aload_n 135 rfl 0 dX4_pass_134 rfl rfl ?_
    refine V_geti 138 rfl dX4_pass_135 fl_X4_37 rfl ?_
    refine V_aload_n 139 rfl 0 dX4_pass_138 rfl rfl ?_
    refine V_geti 142 rfl dX4_pass_139 fl_X4_21 rfl ?_
    refine V_icmp_ge 145 184 rfl dX4_pass_142 (by decide) (fun c => ?_) (fun c => ?_)
    · have h := zpos c h
      exact V_w (zsub_s (zsub_s (zsub_n (zsub_n zsub_0)))) (ke s (zinj h))
    · have h := zneg c h
      refine V_aload_n 146 rfl 0 dX4_pass_145 rfl rfl ?_
      obtain ⟨hi, h⟩ := zobd h
      refine V_getm 149 rfl 36 dX4_pass_146 fl_X4_9 rfl rfl (eq_of_beq hi) ?_
      refine V_aload_n 150 rfl 0 dX4_pass_149 rfl rfl ?_
      refine V_geti 153 rfl dX4_pass_150 fl_X4_37 rfl ?_
      obtain ⟨hi, h⟩ := zobd h
      refine V_bald 154 rfl dX4_pass_153 rfl hi ?_
      refine V_iload_n 155 rfl 2 dX4_pass_154 rfl rfl ?_
      refine V_icmp_lt 158 184 rfl dX4_pass_155 (by decide) (fun c => ?_) (fun c => ?_)
      · have h := zpos c h
        exact V_w (zsub_s (zsub_s (zsub_n (zsub_n zsub_0)))) (ke s (zinj h))
      · have h := zneg c h
        refine V_aload_n 159 rfl 0 dX4_pass_158 rfl rfl ?_
        obtain ⟨hi, h⟩ := zobd h
        refine V_getm 162 rfl 36 dX4_pass_159 fl_X4_9 rfl rfl (eq_of_beq hi) ?_
        refine V_aload_n 163 rfl 0 dX4_pass_162 rfl rfl ?_
        refine V_geti 166 rfl dX4_pass_163 fl_X4_37 rfl ?_
        obtain ⟨hi, h⟩ := zobd h
        refine V_bald 167 rfl dX4_pass_166 rfl hi ?_
        refine V_iload_n 168 rfl 3 dX4_pass_167 rfl rfl ?_
        refine V_icmp_gt 171 184 rfl dX4_pass_168 (by decide) (fun c => ?_) (fun c => ?_)
        · have h := zpos c h
          exact V_w (zsub_s (zsub_s (zsub_n (zsub_n zsub_0)))) (ke s (zinj h))
        · have h := zneg c h
          refine V_aload_n 172 rfl 0 dX4_pass_171 rfl rfl ?_
          refine V_dup 173 rfl dX4_pass_172 rfl ?_
          refine V_geti 176 rfl dX4_pass_173 fl_X4_37 rfl ?_
          refine V_iconst 177 rfl (v := 1) dX4_pass_176 (by decide) ?_
          refine V_iadd 178 rfl dX4_pass_177 ?_
          refine V_puti 181 rfl dX4_pass_178 fw_X4_37 rfl rfl rfl ?_
          refine V_goto 134 dX4_pass_181 (by decide) ?_
          exact kc (wi s 4 0 3 ((((gi s 4 0 3)) + 1))) (zinj h)
theorem wX4_pass_J133 {E : zE} {d : Nat} (hd : 0 ≤ d) {Q : Option zV → zM → Prop} {v2 : Int32} {s0 : Int32} {mm : zM} {o : zM} (h : fX4_pass_J133 v2 s0 mm = some o) (hQ : ∀ r, o = r → Q none r) : V E RX4 cX4_pass 4 none d Q 133 [some (zK 4 0), none, some (zI v2), none] [zI s0] mm := by
  unfold fX4_pass_J133 at h
  refine V_istore_n 134 rfl 3 (L' := [some (zK 4 0), none, some (zI v2), some (zI s0)]) dX4_pass_133 rfl (by decide) rfl ?_
  obtain ⟨o5, h1, h⟩ := zbd h
  refine wX4_pass_L134 hd h1 (fun y3 e => ?_)
  have h := zcl_ e h
  refine V_aload_n 185 rfl 0 dX4_pass_184 rfl rfl ?_
  refine V_geti 188 rfl dX4_pass_185 fl_X4_37 rfl ?_
  refine V_aload_n 189 rfl 0 dX4_pass_188 rfl rfl ?_
  refine V_geti 192 rfl dX4_pass_189 fl_X4_43 rfl ?_
  refine V_icmp_ne 195 205 rfl dX4_pass_192 (by decide) (fun c => ?_) (fun c => ?_)
  · have h := zneg c h
    exact V_vret dX4_pass_205 rfl (hQ y3 (zinj h))
  · have h := zpos c h
    refine V_aload_n 196 rfl 0 dX4_pass_195 rfl rfl ?_
    refine V_dup 197 rfl dX4_pass_196 rfl ?_
    refine V_geti 200 rfl dX4_pass_197 fl_X4_37 rfl ?_
    refine V_iconst 201 rfl (v := 1) dX4_pass_200 (by decide) ?_
    refine V_iadd 202 rfl dX4_pass_201 ?_
    refine V_puti 205 rfl dX4_pass_202 fw_X4_37 rfl rfl rfl ?_
    exact V_vret dX4_pass_205 rfl (hQ ((wi y3 4 0 3 ((((gi y3 4 0 3)) + 1)))) (zinj h))
theorem wX4_pass_J121 {E : zE} {d : Nat} (hd : 0 ≤ d) {Q : Option zV → zM → Prop} {v1 : Int32} {s0 : Int32} {mm : zM} {o : zM} (h : fX4_pass_J121 v1 s0 mm = some o) (hQ : ∀ r, o = r → Q none r) : V E RX4 cX4_pass 4 none d Q 121 [some (zK 4 0), some (zI v1), none, none] [zI s0] mm := by
  unfold fX4_pass_J121 at h
  refine V_istore_n 122 rfl 2 (L' := [some (zK 4 0), some (zI v1), some (zI s0), none]) dX4_pass_121 rfl (by decide) rfl ?_
  refine V_iload_n 123 rfl 1 dX4_pass_122 rfl rfl ?_
  refine V_if_eq 126 131 rfl dX4_pass_123 (by decide) (fun c => ?_) (fun c => ?_)
  · have h := zpos c h
    refine V_bipush 133 rfl (v := 57) dX4_pass_131 (by decide) ?_
    exact V_w (zsub_s (zsub_n (zsub_s (zsub_s zsub_0)))) (wX4_pass_J133 hd h hQ)
  · have h := zneg c h
    refine V_bipush 128 rfl (v := 122) dX4_pass_126 (by decide) ?_
    refine V_goto 133 dX4_pass_128 (by decide) ?_
    exact V_w (zsub_s (zsub_n (zsub_s (zsub_s zsub_0)))) (wX4_pass_J133 hd h hQ)
theorem wX4_pass_J109 {E : zE} {d : Nat} (hd : 0 ≤ d) {Q : Option zV → zM → Prop} {s0 : Int32} {mm : zM} {o : zM} (h : fX4_pass_J109 s0 mm = some o) (hQ : ∀ r, o = r → Q none r) : V E RX4 cX4_pass 4 none d Q 109 [some (zK 4 0), none, none, none] [zI s0] mm := by
  unfold fX4_pass_J109 at h
  refine V_istore_n 110 rfl 1 (L' := [some (zK 4 0), some (zI s0), none, none]) dX4_pass_109 rfl (by decide) rfl ?_
  refine V_iload_n 111 rfl 1 dX4_pass_110 rfl rfl ?_
  refine V_if_eq 114 119 rfl dX4_pass_111 (by decide) (fun c => ?_) (fun c => ?_)
  · have h := zpos c h
    refine V_bipush 121 rfl (v := 48) dX4_pass_119 (by decide) ?_
    exact wX4_pass_J121 hd h hQ
  · have h := zneg c h
    refine V_bipush 116 rfl (v := 97) dX4_pass_114 (by decide) ?_
    refine V_goto 121 dX4_pass_116 (by decide) ?_
    exact wX4_pass_J121 hd h hQ
theorem wX4_pass_J108 {E : zE} {d : Nat} (hd : 0 ≤ d) {Q : Option zV → zM → Prop} {mm : zM} {o : zM} (h : fX4_pass_J108  mm = some o) (hQ : ∀ r, o = r → Q none r) : V E RX4 cX4_pass 4 none d Q 108 [some (zK 4 0), none, none, none] [] mm := by
  unfold fX4_pass_J108 at h
  refine V_iconst 109 rfl (v := 0) dX4_pass_108 (by decide) ?_
  exact wX4_pass_J109 hd h hQ
theorem wX4_pass {E : zE} {d : Nat} (hd : 0 ≤ d) {Q : Option zV → zM → Prop} {mm : zM} {o : zM} (h : fX4_pass mm = some o) (hQ : ∀ r, o = r → Q none r) : V E RX4 cX4_pass 4 none d Q 0 [some (zK 4 0), none, none, none] [] mm := by
  unfold fX4_pass at h
  refine V_aload_n 1 rfl 0 dX4_pass_0 rfl rfl ?_
  refine V_aload_n 2 rfl 0 dX4_pass_1 rfl rfl ?_
  refine V_geti 5 rfl dX4_pass_2 fl_X4_37 rfl ?_
  refine V_puti 8 rfl dX4_pass_5 fw_X4_43 rfl rfl rfl ?_
  obtain ⟨o6, h1, h⟩ := zbd h
  refine wX4_pass_L8 hd h1 (fun y1 e => ?_)
  have h := zcl_ e h
  refine V_aload_n 47 rfl 0 dX4_pass_46 rfl rfl ?_
  refine V_aload_n 48 rfl 0 dX4_pass_47 rfl rfl ?_
  refine V_geti 51 rfl dX4_pass_48 fl_X4_43 rfl ?_
  refine V_puti 54 rfl dX4_pass_51 fw_X4_37 rfl rfl rfl ?_
  refine V_aload_n 55 rfl 0 dX4_pass_54 rfl rfl ?_
  refine V_geti 58 rfl dX4_pass_55 fl_X4_43 rfl ?_
  refine V_aload_n 59 rfl 0 dX4_pass_58 rfl rfl ?_
  refine V_geti 62 rfl dX4_pass_59 fl_X4_21 rfl ?_
  refine V_icmp_lt 65 73 rfl dX4_pass_62 (by decide) (fun c => ?_) (fun c => ?_)
  · have h := zpos c h
    refine V_aload_n 74 rfl 0 dX4_pass_73 rfl rfl ?_
    refine V_aload_n 75 rfl 0 dX4_pass_74 rfl rfl ?_
    obtain ⟨hi, h⟩ := zobd h
    refine V_getm 78 rfl 36 dX4_pass_75 fl_X4_9 rfl rfl (eq_of_beq hi) ?_
    refine V_aload_n 79 rfl 0 dX4_pass_78 rfl rfl ?_
    refine V_geti 82 rfl dX4_pass_79 fl_X4_43 rfl ?_
    obtain ⟨hi, h⟩ := zobd h
    refine V_bald 83 rfl dX4_pass_82 rfl hi ?_
    refine V_puti 86 rfl dX4_pass_83 fw_X4_53 rfl rfl rfl ?_
    refine V_aload_n 87 rfl 0 dX4_pass_86 rfl rfl ?_
    refine V_geti 90 rfl dX4_pass_87 fl_X4_53 rfl ?_
    refine V_bipush 92 rfl (v := 97) dX4_pass_90 (by decide) ?_
    refine V_icmp_lt 95 108 rfl dX4_pass_92 (by decide) (fun c => ?_) (fun c => ?_)
    · have h := zpos c h
      exact wX4_pass_J108 hd h hQ
    · have h := zneg c h
      refine V_aload_n 96 rfl 0 dX4_pass_95 rfl rfl ?_
      refine V_geti 99 rfl dX4_pass_96 fl_X4_53 rfl ?_
      refine V_bipush 101 rfl (v := 122) dX4_pass_99 (by decide) ?_
      refine V_icmp_gt 104 108 rfl dX4_pass_101 (by decide) (fun c => ?_) (fun c => ?_)
      · have h := zpos c h
        exact wX4_pass_J108 hd h hQ
      · have h := zneg c h
        refine V_iconst 105 rfl (v := 1) dX4_pass_104 (by decide) ?_
        refine V_goto 109 dX4_pass_105 (by decide) ?_
        exact wX4_pass_J109 hd h hQ
  · have h := zneg c h
    refine V_aload_n 66 rfl 0 dX4_pass_65 rfl rfl ?_
    refine V_sipush 69 rfl (v := 256) dX4_pass_66 (by decide) ?_
    refine V_puti 72 rfl dX4_pass_69 fw_X4_53 rfl rfl rfl ?_
    exact V_vret dX4_pass_72 rfl (hQ ((wi ((wi y1 4 0 3 ((gi y1 4 0 2)))) 4 0 4 256)) (zinj h))
theorem ctX4_pass {E : zE} {d : Nat} (hd : 0 ≤ d) {mm : zM} {o : zM} (h : fX4_pass mm = some o) : zOC E yX4_pass cX4_pass 4 none d [zK 4 0] mm none o :=
  zCT_of (by decide) (Nat.le_of_ble_eq_true rfl) (zk_k zk_0) rfl (wX4_pass hd h (fun r e => ⟨rfl, by rw [e]⟩))
def fX4_isWord_L20 (v1 : Nat) (mm : zM) (s : Int32) : Option (Int32 ⊕ (Unit ⊕ Int32)) :=
  if (zslen v1) ≤ s then (some (.inr (.inl ()))) else (zob (gr mm 4 0 == some 0) (zob (zin ((((gi mm 4 0 2)) + s)) 400) (zob (zin s (zlen.getD v1 0)) (if (gi mm 36 0 (zn ((((gi mm 4 0 2)) + s)))) = (zschr v1 s) then (some (.inl (s + 1))) else (some (.inr (.inr 0)))))))
def fX4_isWord (v1 : Nat) (mm : zM) : Option Int32 :=
  if (((gi mm 4 0 3)) - ((gi mm 4 0 2))) = (zslen v1) then ((zloop (fX4_isWord_L20 v1 mm) zF 0).bind (fun o3 => zcase o3 (fun y1 => some 1) (fun r2 => some r2))) else (some 0)
theorem wX4_isWord_L20 {E : zE} {d : Nat} (hd : 6 ≤ d) {Q : Option zV → zM → Prop} {v1 : Nat} {mm : zM} {n : Nat} {s : Int32} {o : Unit ⊕ Int32} (h : zloop (fX4_isWord_L20 v1 mm) n s = some o) (he : ∀ y : Unit, o = .inl y → V E RX4 cX4_isWord 3 (some .boolean) d Q 55 [none, none, none] [] mm) (hr : ∀ r : Int32, o = .inr r → Q (some (zI r)) mm) : V E RX4 cX4_isWord 3 (some .boolean) d Q 20 [some (zK 4 0), some (zK 61 v1), some (zI s)] [] mm := by
  induction n generalizing s with
  | zero => exact (zloop_0 h).elim
  | succ n ih =>
    obtain ⟨o1, h1, hc1, he1⟩ := zloop_s h
    have kc : ∀ s' : Int32, o1 = .inl s' → V E RX4 cX4_isWord 3 (some .boolean) d Q 20 [some (zK 4 0), some (zK 61 v1), some (zI s')] [] mm := fun s' e => ih (hc1 s' e)
    have ke : ∀ y : Unit, o1 = .inr (.inl y) → V E RX4 cX4_isWord 3 (some .boolean) d Q 55 [none, none, none] [] mm := fun y e => he y (he1 _ e)
    have kr : ∀ r : Int32, o1 = .inr (.inr r) → Q (some (zI r)) mm := fun r e => hr r (he1 _ e)
    clear h hc1 he1 ih
    have h := h1
    clear h1
    unfold fX4_isWord_L20 at h
    refine V_iload_n 21 rfl 2 dX4_isWord_20 rfl rfl ?_
    refine V_aload_n 22 rfl 1 dX4_isWord_21 rfl rfl ?_
    refine V_strlen 25 rfl dX4_isWord_22 tb_496 (Nat.le_trans (by decide) hd) (Nat.le_of_ble_eq_true rfl) ?_
    refine V_icmp_ge 28 55 rfl dX4_isWord_25 (by decide) (fun c => ?_) (fun c => ?_)
    · have h := zpos c h
      exact V_w (zsub_n (zsub_n (zsub_n zsub_0))) (ke () (zinj h))
    · have h := zneg c h
      refine V_aload_n 29 rfl 0 dX4_isWord_28 rfl rfl ?_
      obtain ⟨hi, h⟩ := zobd h
      refine V_getm 32 rfl 36 dX4_isWord_29 fl_X4_9 rfl rfl (eq_of_beq hi) ?_
      refine V_aload_n 33 rfl 0 dX4_isWord_32 rfl rfl ?_
      refine V_geti 36 rfl dX4_isWord_33 fl_X4_43 rfl ?_
      refine V_iload_n 37 rfl 2 dX4_isWord_36 rfl rfl ?_
      refine V_iadd 38 rfl dX4_isWord_37 ?_
      obtain ⟨hi, h⟩ := zobd h
      refine V_bald 39 rfl dX4_isWord_38 rfl hi ?_
      refine V_aload_n 40 rfl 1 dX4_isWord_39 rfl rfl ?_
      refine V_iload_n 41 rfl 2 dX4_isWord_40 rfl rfl ?_
      obtain ⟨hi, h⟩ := zobd h
      refine V_strchr 44 rfl dX4_isWord_41 tb_506 hi (Nat.le_trans (by decide) hd) (Nat.le_of_ble_eq_true rfl) ?_
      refine V_icmp_eq 47 49 rfl dX4_isWord_44 (by decide) (fun c => ?_) (fun c => ?_)
      · have h := zpos c h
        refine V_iinc 52 rfl (s + 1) (L' := [some (zK 4 0), some (zK 61 v1), some (zI (s + 1))]) dX4_isWord_49 rfl rfl (by decide) rfl ?_
        refine V_goto 20 dX4_isWord_52 (by decide) ?_
        exact kc (s + 1) (zinj h)
      · have h := zneg c h
        refine V_iconst 48 rfl (v := 0) dX4_isWord_47 (by decide) ?_
        exact V_zret dX4_isWord_48 rfl rfl (kr 0 (zinj h))
theorem wX4_isWord {E : zE} {d : Nat} (hd : 6 ≤ d) {Q : Option zV → zM → Prop} {v1 : Nat} {mm : zM} {o : Int32} (h : fX4_isWord v1 mm = some o) (hQ : ∀ r, o = r → Q (some (zI r)) mm) : V E RX4 cX4_isWord 3 (some .boolean) d Q 0 [some (zK 4 0), some (zK 61 v1), none] [] mm := by
  unfold fX4_isWord at h
  refine V_aload_n 1 rfl 0 dX4_isWord_0 rfl rfl ?_
  refine V_geti 4 rfl dX4_isWord_1 fl_X4_37 rfl ?_
  refine V_aload_n 5 rfl 0 dX4_isWord_4 rfl rfl ?_
  refine V_geti 8 rfl dX4_isWord_5 fl_X4_43 rfl ?_
  refine V_isub 9 rfl dX4_isWord_8 ?_
  refine V_aload_n 10 rfl 1 dX4_isWord_9 rfl rfl ?_
  refine V_strlen 13 rfl dX4_isWord_10 tb_496 (Nat.le_trans (by decide) hd) (Nat.le_of_ble_eq_true rfl) ?_
  refine V_icmp_eq 16 18 rfl dX4_isWord_13 (by decide) (fun c => ?_) (fun c => ?_)
  · have h := zpos c h
    refine V_iconst 19 rfl (v := 0) dX4_isWord_18 (by decide) ?_
    refine V_istore_n 20 rfl 2 (L' := [some (zK 4 0), some (zK 61 v1), some (zI 0)]) dX4_isWord_19 rfl (by decide) rfl ?_
    obtain ⟨o3, h1, h⟩ := zbd h
    refine wX4_isWord_L20 hd h1 (fun y1 e => ?_) (fun r e => by have h := zcr_ e h; exact hQ r (zinj h))
    have h := zcl_ e h
    refine V_iconst 56 rfl (v := 1) dX4_isWord_55 (by decide) ?_
    exact V_zret dX4_isWord_56 rfl rfl (hQ 1 (zinj h))
  · have h := zneg c h
    refine V_iconst 17 rfl (v := 0) dX4_isWord_16 (by decide) ?_
    exact V_zret dX4_isWord_17 rfl rfl (hQ 0 (zinj h))
theorem ctX4_isWord {E : zE} {d : Nat} (hd : 6 ≤ d) {v1 : Nat} {mm : zM} {o : Int32} (h : fX4_isWord v1 mm = some o) : zOC E yX4_isWord cX4_isWord 3 (some .boolean) d [zK 4 0, zK 61 v1] mm (some (zI o)) mm :=
  zCT_of (by decide) (Nat.le_of_ble_eq_true rfl) (zk_k (zk_k zk_0)) rfl (wX4_isWord hd h (fun r e => ⟨by rw [e], rfl⟩))
def fX4_nameHere (mm : zM) : Option Int32 :=
  if (gi mm 4 0 4) < 65 then (some ((-1))) else (if 90 < (gi mm 4 0 4) then (some ((-1))) else (some ((((gi mm 4 0 4)) - 65))))
theorem wX4_nameHere {E : zE} {d : Nat} (hd : 0 ≤ d) {Q : Option zV → zM → Prop} {mm : zM} {o : Int32} (h : fX4_nameHere mm = some o) (hQ : ∀ r, o = r → Q (some (zI r)) mm) : V E RX4 cX4_nameHere 1 (some .int) d Q 0 [some (zK 4 0)] [] mm := by
  unfold fX4_nameHere at h
  refine V_aload_n 1 rfl 0 dX4_nameHere_0 rfl rfl ?_
  refine V_geti 4 rfl dX4_nameHere_1 fl_X4_53 rfl ?_
  refine V_bipush 6 rfl (v := 65) dX4_nameHere_4 (by decide) ?_
  refine V_icmp_lt 9 28 rfl dX4_nameHere_6 (by decide) (fun c => ?_) (fun c => ?_)
  · have h := zpos c h
    refine V_iconst 29 rfl (v := (-1)) dX4_nameHere_28 (by decide) ?_
    exact V_iret dX4_nameHere_29 rfl (hQ ((-1)) (zinj h))
  · have h := zneg c h
    refine V_aload_n 10 rfl 0 dX4_nameHere_9 rfl rfl ?_
    refine V_geti 13 rfl dX4_nameHere_10 fl_X4_53 rfl ?_
    refine V_bipush 15 rfl (v := 90) dX4_nameHere_13 (by decide) ?_
    refine V_icmp_gt 18 28 rfl dX4_nameHere_15 (by decide) (fun c => ?_) (fun c => ?_)
    · have h := zpos c h
      refine V_iconst 29 rfl (v := (-1)) dX4_nameHere_28 (by decide) ?_
      exact V_iret dX4_nameHere_29 rfl (hQ ((-1)) (zinj h))
    · have h := zneg c h
      refine V_aload_n 19 rfl 0 dX4_nameHere_18 rfl rfl ?_
      refine V_geti 22 rfl dX4_nameHere_19 fl_X4_53 rfl ?_
      refine V_bipush 24 rfl (v := 65) dX4_nameHere_22 (by decide) ?_
      refine V_isub 25 rfl dX4_nameHere_24 ?_
      refine V_goto 29 dX4_nameHere_25 (by decide) ?_
      exact V_iret dX4_nameHere_29 rfl (hQ ((((gi mm 4 0 4)) - 65)) (zinj h))
theorem ctX4_nameHere {E : zE} {d : Nat} (hd : 0 ≤ d) {mm : zM} {o : Int32} (h : fX4_nameHere mm = some o) : zOC E yX4_nameHere cX4_nameHere 1 (some .int) d [zK 4 0] mm (some (zI o)) mm :=
  zCT_of (by decide) (Nat.le_of_ble_eq_true rfl) (zk_k zk_0) rfl (wX4_nameHere hd h (fun r e => ⟨by rw [e], rfl⟩))
def fX8_indexOf_L2 (v0 : Nat) (v1 : Int32) (mm : zM) (s : Int32) : Option (Int32 ⊕ (Unit ⊕ Int32)) :=
  if (gi mm 8 v0 1) ≤ s then (some (.inr (.inl ()))) else (zob (zin s 12) (if (gi mm 7 (12 * v0 + zn s) 1) = v1 then (some (.inr (.inr s))) else (some (.inl (s + 1)))))
def fX8_indexOf (v0 : Nat) (v1 : Int32) (mm : zM) : Option Int32 :=
  (zloop (fX8_indexOf_L2 v0 v1 mm) zF 0).bind (fun o3 => zcase o3 (fun y1 => some ((-1))) (fun r2 => some r2))
theorem wX8_indexOf_L2 {E : zE} {d : Nat} (hd : 0 ≤ d) {Q : Option zV → zM → Prop} {v0 : Nat} {v1 : Int32} {mm : zM} {n : Nat} {s : Int32} {o : Unit ⊕ Int32} (h : zloop (fX8_indexOf_L2 v0 v1 mm) n s = some o) (he : ∀ y : Unit, o = .inl y → V E RX8 cX8_indexOf 3 (some .int) d Q 31 [none, none, none] [] mm) (hr : ∀ r : Int32, o = .inr r → Q (some (zI r)) mm) : V E RX8 cX8_indexOf 3 (some .int) d Q 2 [some (zK 8 v0), some (zI v1), some (zI s)] [] mm := by
  induction n generalizing s with
  | zero => exact (zloop_0 h).elim
  | succ n ih =>
    obtain ⟨o1, h1, hc1, he1⟩ := zloop_s h
    have kc : ∀ s' : Int32, o1 = .inl s' → V E RX8 cX8_indexOf 3 (some .int) d Q 2 [some (zK 8 v0), some (zI v1), some (zI s')] [] mm := fun s' e => ih (hc1 s' e)
    have ke : ∀ y : Unit, o1 = .inr (.inl y) → V E RX8 cX8_indexOf 3 (some .int) d Q 31 [none, none, none] [] mm := fun y e => he y (he1 _ e)
    have kr : ∀ r : Int32, o1 = .inr (.inr r) → Q (some (zI r)) mm := fun r e => hr r (he1 _ e)
    clear h hc1 he1 ih
    have h := h1
    clear h1
    unfold fX8_indexOf_L2 at h
    refine V_iload_n 3 rfl 2 dX8_indexOf_2 rfl rfl ?_
    refine V_aload_n 4 rfl 0 dX8_indexOf_3 rfl rfl ?_
    refine V_geti 7 rfl dX8_indexOf_4 fl_X8_18 rfl ?_
    refine V_icmp_ge 10 31 rfl dX8_indexOf_7 (by decide) (fun c => ?_) (fun c => ?_)
    · have h := zpos c h
      exact V_w (zsub_n (zsub_n (zsub_n zsub_0))) (ke () (zinj h))
    · have h := zneg c h
      refine V_aload_n 11 rfl 0 dX8_indexOf_10 rfl rfl ?_
      refine V_getr 14 rfl 35 v0 dX8_indexOf_11 fl_X8_11 rfl rfl rfl ?_
      refine V_iload_n 15 rfl 2 dX8_indexOf_14 rfl rfl ?_
      obtain ⟨hi, h⟩ := zobd h
      refine V_aald 16 rfl 7 (12 * v0 + zn s) dX8_indexOf_15 rfl (by decide) (by decide) rfl rfl hi ?_
      refine V_geti 19 rfl dX8_indexOf_16 fl_X8_30 rfl ?_
      refine V_iload_n 20 rfl 1 dX8_indexOf_19 rfl rfl ?_
      refine V_icmp_ne 23 25 rfl dX8_indexOf_20 (by decide) (fun c => ?_) (fun c => ?_)
      · have h := zneg c h
        refine V_iinc 28 rfl (s + 1) (L' := [some (zK 8 v0), some (zI v1), some (zI (s + 1))]) dX8_indexOf_25 rfl rfl (by decide) rfl ?_
        refine V_goto 2 dX8_indexOf_28 (by decide) ?_
        exact kc (s + 1) (zinj h)
      · have h := zpos c h
        refine V_iload_n 24 rfl 2 dX8_indexOf_23 rfl rfl ?_
        exact V_iret dX8_indexOf_24 rfl (kr s (zinj h))
theorem wX8_indexOf {E : zE} {d : Nat} (hd : 0 ≤ d) {Q : Option zV → zM → Prop} {v0 : Nat} {v1 : Int32} {mm : zM} {o : Int32} (h : fX8_indexOf v0 v1 mm = some o) (hQ : ∀ r, o = r → Q (some (zI r)) mm) : V E RX8 cX8_indexOf 3 (some .int) d Q 0 [some (zK 8 v0), some (zI v1), none] [] mm := by
  unfold fX8_indexOf at h
  refine V_iconst 1 rfl (v := 0) dX8_indexOf_0 (by decide) ?_
  refine V_istore_n 2 rfl 2 (L' := [some (zK 8 v0), some (zI v1), some (zI 0)]) dX8_indexOf_1 rfl (by decide) rfl ?_
  obtain ⟨o3, h1, h⟩ := zbd h
  refine wX8_indexOf_L2 hd h1 (fun y1 e => ?_) (fun r e => by have h := zcr_ e h; exact hQ r (zinj h))
  have h := zcl_ e h
  refine V_iconst 32 rfl (v := (-1)) dX8_indexOf_31 (by decide) ?_
  exact V_iret dX8_indexOf_32 rfl (hQ ((-1)) (zinj h))
theorem ctX8_indexOf {E : zE} {d : Nat} (hd : 0 ≤ d) {v0 : Nat} {v1 : Int32} {mm : zM} {o : Int32} (h : fX8_indexOf v0 v1 mm = some o) : zOC E yX8_indexOf cX8_indexOf 3 (some .int) d [zK 8 v0, zI v1] mm (some (zI o)) mm :=
  zCT_of (by decide) (Nat.le_of_ble_eq_true rfl) (zk_k (zk_i zk_0)) rfl (wX8_indexOf hd h (fun r e => ⟨by rw [e], rfl⟩))
def fJ7_fill_32_L5 (v0 : Nat) (v1 : Int32) (v3 : Int32) (s : (Int32 × zM)) : Option ((Int32 × zM) ⊕ (zM ⊕ Empty)) :=
  if v3 ≤ s.1 then (some (.inr (.inl s.2))) else (zob (zin s.1 26) (some (.inl ((s.1 + 1), (wi s.2 32 v0 (zn s.1) v1)))))
def fJ7_fill_32 (v0 : Nat) (v1 : Int32) (mm : zM) : Option zM :=
  (zloop (fJ7_fill_32_L5 v0 v1 26) zF (0, mm)).bind (fun o3 => zcase o3 (fun y1 => some y1) (fun r2 => r2.elim))
theorem wJ7_fill_32_L5 {E : zE} {d : Nat} (hd : 0 ≤ d) {Q : Option zV → zM → Prop} {v0 : Nat} {v1 : Int32} {v3 : Int32} {n : Nat} {s : (Int32 × zM)} {o : zM ⊕ Empty} (h : zloop (fJ7_fill_32_L5 v0 v1 v3) n s = some o) (he : ∀ y : zM, o = .inl y → V E RJ7 cJ7_fill_53178 4 none d Q 20 [none, none, none, none] [] y) : V E RJ7 cJ7_fill_53178 4 none d Q 5 [some (zK 32 v0), some (zI v1), some (zI s.1), some (zI v3)] [] s.2 := by
  induction n generalizing s with
  | zero => exact (zloop_0 h).elim
  | succ n ih =>
    obtain ⟨o1, h1, hc1, he1⟩ := zloop_s h
    have kc : ∀ s' : (Int32 × zM), o1 = .inl s' → V E RJ7 cJ7_fill_53178 4 none d Q 5 [some (zK 32 v0), some (zI v1), some (zI s'.1), some (zI v3)] [] s'.2 := fun s' e => ih (hc1 s' e)
    have ke : ∀ y : zM, o1 = .inr (.inl y) → V E RJ7 cJ7_fill_53178 4 none d Q 20 [none, none, none, none] [] y := fun y e => he y (he1 _ e)
    clear h hc1 he1 ih
    have h := h1
    clear h1
    unfold fJ7_fill_32_L5 at h
    refine V_iload_n 6 rfl 2 dJ7_fill_53178_5 rfl rfl ?_
    refine V_iload_n 7 rfl 3 dJ7_fill_53178_6 rfl rfl ?_
    refine V_icmp_ge 10 20 rfl dJ7_fill_53178_7 (by decide) (fun c => ?_) (fun c => ?_)
    · have h := zpos c h
      exact V_w (zsub_n (zsub_n (zsub_n (zsub_n zsub_0)))) (ke s.2 (zinj h))
    · have h := zneg c h
      refine V_aload_n 11 rfl 0 dJ7_fill_53178_10 rfl rfl ?_
      refine V_iload_n 12 rfl 2 dJ7_fill_53178_11 rfl rfl ?_
      refine V_iload_n 13 rfl 1 dJ7_fill_53178_12 rfl rfl ?_
      obtain ⟨hi, h⟩ := zobd h
      refine V_iast 14 rfl dJ7_fill_53178_13 rfl hi ?_
      refine V_iinc 17 rfl (s.1 + 1) (L' := [some (zK 32 v0), some (zI v1), some (zI (s.1 + 1)), some (zI v3)]) dJ7_fill_53178_14 rfl rfl (by decide) rfl ?_
      refine V_goto 5 dJ7_fill_53178_17 (by decide) ?_
      exact kc ((s.1 + 1), (wi s.2 32 v0 (zn s.1) v1)) (zinj h)
theorem wJ7_fill_32 {E : zE} {d : Nat} (hd : 0 ≤ d) {Q : Option zV → zM → Prop} {v0 : Nat} {v1 : Int32} {mm : zM} {o : zM} (h : fJ7_fill_32 v0 v1 mm = some o) (hQ : ∀ r, o = r → Q none r) : V E RJ7 cJ7_fill_53178 4 none d Q 0 [some (zK 32 v0), some (zI v1), none, none] [] mm := by
  unfold fJ7_fill_32 at h
  refine V_iconst 1 rfl (v := 0) dJ7_fill_53178_0 (by decide) ?_
  refine V_istore_n 2 rfl 2 (L' := [some (zK 32 v0), some (zI v1), some (zI 0), none]) dJ7_fill_53178_1 rfl (by decide) rfl ?_
  refine V_aload_n 3 rfl 0 dJ7_fill_53178_2 rfl rfl ?_
  refine V_alen 4 rfl 26 dJ7_fill_53178_3 rfl (by decide) (by decide) ?_
  refine V_istore_n 5 rfl 3 (L' := [some (zK 32 v0), some (zI v1), some (zI 0), some (zI 26)]) dJ7_fill_53178_4 rfl (by decide) rfl ?_
  obtain ⟨o3, h1, h⟩ := zbd h
  refine wJ7_fill_32_L5 hd h1 (fun y1 e => ?_)
  have h := zcl_ e h
  exact V_vret dJ7_fill_53178_20 rfl (hQ y1 (zinj h))
theorem ctJ7_fill_32 {E : zE} {d : Nat} (hd : 0 ≤ d) {v0 : Nat} {v1 : Int32} {mm : zM} {o : zM} (h : fJ7_fill_32 v0 v1 mm = some o) : zOC E yJ7_fill_53178 cJ7_fill_53178 4 none d [zK 32 v0, zI v1] mm none o :=
  zCT_of (by decide) (Nat.le_of_ble_eq_true rfl) (zk_k (zk_i zk_0)) rfl (wJ7_fill_32 hd h (fun r e => ⟨rfl, by rw [e]⟩))
def fX7_open (v0 : Nat) (v1 : Int32) (v2 : Int32) (mm : zM) : Option zM :=
  zob (zbo v1) ((fJ7_fill_32 v0 ((-1)) ((wi ((wi ((wi ((wi ((wi mm 7 v0 0 v1)) 7 v0 1 v2)) 7 v0 2 0)) 5 (2 * v0) 1 0)) 5 (2 * v0 + 1) 1 0))).bind (fun x1 => some x1))
theorem wX7_open {E : zE} {d : Nat} (hd : 1 ≤ d) {Q : Option zV → zM → Prop} {v0 : Nat} {v1 : Int32} {v2 : Int32} {mm : zM} {o : zM} (h : fX7_open v0 v1 v2 mm = some o) (hQ : ∀ r, o = r → Q none r) : V E RX7 cX7_open 3 none d Q 0 [some (zK 7 v0), some (zI v1), some (zI v2)] [] mm := by
  unfold fX7_open at h
  refine V_aload_n 1 rfl 0 dX7_open_0 rfl rfl ?_
  refine V_iload_n 2 rfl 1 dX7_open_1 rfl rfl ?_
  obtain ⟨hi, h⟩ := zobd h
  refine V_puti 5 rfl dX7_open_2 fw_X7_34 rfl (zbo_n hi) (zbo_f hi) ?_
  refine V_aload_n 6 rfl 0 dX7_open_5 rfl rfl ?_
  refine V_iload_n 7 rfl 2 dX7_open_6 rfl rfl ?_
  refine V_puti 10 rfl dX7_open_7 fw_X7_38 rfl rfl rfl ?_
  refine V_aload_n 11 rfl 0 dX7_open_10 rfl rfl ?_
  refine V_iconst 12 rfl (v := 0) dX7_open_11 (by decide) ?_
  refine V_puti 15 rfl dX7_open_12 fw_X7_42 rfl rfl rfl ?_
  refine V_aload_n 16 rfl 0 dX7_open_15 rfl rfl ?_
  refine V_getr 19 rfl 5 (2 * v0) dX7_open_16 fl_X7_12 rfl rfl rfl ?_
  refine V_iconst 20 rfl (v := 0) dX7_open_19 (by decide) ?_
  refine V_puti 23 rfl dX7_open_20 fw_X7_45 rfl rfl rfl ?_
  refine V_aload_n 24 rfl 0 dX7_open_23 rfl rfl ?_
  refine V_getr 27 rfl 5 (2 * v0 + 1) dX7_open_24 fl_X7_18 rfl rfl rfl ?_
  refine V_iconst 28 rfl (v := 0) dX7_open_27 (by decide) ?_
  refine V_puti 31 rfl dX7_open_28 fw_X7_45 rfl rfl rfl ?_
  refine V_aload_n 32 rfl 0 dX7_open_31 rfl rfl ?_
  refine V_getr 35 rfl 32 v0 dX7_open_32 fl_X7_25 rfl rfl rfl ?_
  refine V_iconst 36 rfl (v := (-1)) dX7_open_35 (by decide) ?_
  obtain ⟨x1, h1, h⟩ := zbd h
  refine V_cS 39 rfl 0 [zK 32 v0, zI (-1)] [] dX7_open_36 cs_X7_48 (ctJ7_fill_32 (Nat.le_refl 0) h1) (Nat.le_trans (by decide) hd) rfl rfl (Nat.le_of_ble_eq_true rfl) zokn rfl ?_
  exact V_vret dX7_open_39 rfl (hQ x1 (zinj h))
theorem ctX7_open {E : zE} {d : Nat} (hd : 1 ≤ d) {v0 : Nat} {v1 : Int32} {v2 : Int32} {mm : zM} {o : zM} (h : fX7_open v0 v1 v2 mm = some o) : zOC E yX7_open cX7_open 3 none d [zK 7 v0, zI v1, zI v2] mm none o :=
  zCT_of (by decide) (Nat.le_of_ble_eq_true rfl) (zk_k (zk_i (zk_i zk_0))) rfl (wX7_open hd h (fun r e => ⟨rfl, by rw [e]⟩))
def fX4_memberHere (mm : zM) : Option Int32 :=
  if (gi mm 4 0 3) = (((gi mm 4 0 2)) + 1) then (if (gi mm 4 0 4) < 97 then (some ((-1))) else (if 122 < (gi mm 4 0 4) then (some ((-1))) else (some ((((gi mm 4 0 4)) - 97))))) else (some ((-1)))
theorem wX4_memberHere {E : zE} {d : Nat} (hd : 0 ≤ d) {Q : Option zV → zM → Prop} {mm : zM} {o : Int32} (h : fX4_memberHere mm = some o) (hQ : ∀ r, o = r → Q (some (zI r)) mm) : V E RX4 cX4_memberHere 1 (some .int) d Q 0 [some (zK 4 0)] [] mm := by
  unfold fX4_memberHere at h
  refine V_aload_n 1 rfl 0 dX4_memberHere_0 rfl rfl ?_
  refine V_geti 4 rfl dX4_memberHere_1 fl_X4_37 rfl ?_
  refine V_aload_n 5 rfl 0 dX4_memberHere_4 rfl rfl ?_
  refine V_geti 8 rfl dX4_memberHere_5 fl_X4_43 rfl ?_
  refine V_iconst 9 rfl (v := 1) dX4_memberHere_8 (by decide) ?_
  refine V_iadd 10 rfl dX4_memberHere_9 ?_
  refine V_icmp_ne 13 41 rfl dX4_memberHere_10 (by decide) (fun c => ?_) (fun c => ?_)
  · have h := zneg c h
    refine V_iconst 42 rfl (v := (-1)) dX4_memberHere_41 (by decide) ?_
    exact V_iret dX4_memberHere_42 rfl (hQ ((-1)) (zinj h))
  · have h := zpos c h
    refine V_aload_n 14 rfl 0 dX4_memberHere_13 rfl rfl ?_
    refine V_geti 17 rfl dX4_memberHere_14 fl_X4_53 rfl ?_
    refine V_bipush 19 rfl (v := 97) dX4_memberHere_17 (by decide) ?_
    refine V_icmp_lt 22 41 rfl dX4_memberHere_19 (by decide) (fun c => ?_) (fun c => ?_)
    · have h := zpos c h
      refine V_iconst 42 rfl (v := (-1)) dX4_memberHere_41 (by decide) ?_
      exact V_iret dX4_memberHere_42 rfl (hQ ((-1)) (zinj h))
    · have h := zneg c h
      refine V_aload_n 23 rfl 0 dX4_memberHere_22 rfl rfl ?_
      refine V_geti 26 rfl dX4_memberHere_23 fl_X4_53 rfl ?_
      refine V_bipush 28 rfl (v := 122) dX4_memberHere_26 (by decide) ?_
      refine V_icmp_gt 31 41 rfl dX4_memberHere_28 (by decide) (fun c => ?_) (fun c => ?_)
      · have h := zpos c h
        refine V_iconst 42 rfl (v := (-1)) dX4_memberHere_41 (by decide) ?_
        exact V_iret dX4_memberHere_42 rfl (hQ ((-1)) (zinj h))
      · have h := zneg c h
        refine V_aload_n 32 rfl 0 dX4_memberHere_31 rfl rfl ?_
        refine V_geti 35 rfl dX4_memberHere_32 fl_X4_53 rfl ?_
        refine V_bipush 37 rfl (v := 97) dX4_memberHere_35 (by decide) ?_
        refine V_isub 38 rfl dX4_memberHere_37 ?_
        refine V_goto 42 dX4_memberHere_38 (by decide) ?_
        exact V_iret dX4_memberHere_42 rfl (hQ ((((gi mm 4 0 4)) - 97)) (zinj h))
theorem ctX4_memberHere {E : zE} {d : Nat} (hd : 0 ≤ d) {mm : zM} {o : Int32} (h : fX4_memberHere mm = some o) : zOC E yX4_memberHere cX4_memberHere 1 (some .int) d [zK 4 0] mm (some (zI o)) mm :=
  zCT_of (by decide) (Nat.le_of_ble_eq_true rfl) (zk_k zk_0) rfl (wX4_memberHere hd h (fun r e => ⟨by rw [e], rfl⟩))
def fX7_tells (v0 : Nat) (v1 : Int32) (mm : zM) : Option Int32 :=
  zob (zin v1 26) (if (gi mm 32 v0 (zn v1)) = (-1) then (some 0) else (some 1))
theorem wX7_tells {E : zE} {d : Nat} (hd : 0 ≤ d) {Q : Option zV → zM → Prop} {v0 : Nat} {v1 : Int32} {mm : zM} {o : Int32} (h : fX7_tells v0 v1 mm = some o) (hQ : ∀ r, o = r → Q (some (zI r)) mm) : V E RX7 cX7_tells 2 (some .boolean) d Q 0 [some (zK 7 v0), some (zI v1)] [] mm := by
  unfold fX7_tells at h
  refine V_aload_n 1 rfl 0 dX7_tells_0 rfl rfl ?_
  refine V_getr 4 rfl 32 v0 dX7_tells_1 fl_X7_25 rfl rfl rfl ?_
  refine V_iload_n 5 rfl 1 dX7_tells_4 rfl rfl ?_
  obtain ⟨hi, h⟩ := zobd h
  refine V_iald 6 rfl dX7_tells_5 rfl hi ?_
  refine V_iconst 7 rfl (v := (-1)) dX7_tells_6 (by decide) ?_
  refine V_icmp_eq 10 14 rfl dX7_tells_7 (by decide) (fun c => ?_) (fun c => ?_)
  · have h := zpos c h
    refine V_iconst 15 rfl (v := 0) dX7_tells_14 (by decide) ?_
    exact V_zret dX7_tells_15 rfl rfl (hQ 0 (zinj h))
  · have h := zneg c h
    refine V_iconst 11 rfl (v := 1) dX7_tells_10 (by decide) ?_
    refine V_goto 15 dX7_tells_11 (by decide) ?_
    exact V_zret dX7_tells_15 rfl rfl (hQ 1 (zinj h))
theorem ctX7_tells {E : zE} {d : Nat} (hd : 0 ≤ d) {v0 : Nat} {v1 : Int32} {mm : zM} {o : Int32} (h : fX7_tells v0 v1 mm = some o) : zOC E yX7_tells cX7_tells 2 (some .boolean) d [zK 7 v0, zI v1] mm (some (zI o)) mm :=
  zCT_of (by decide) (Nat.le_of_ble_eq_true rfl) (zk_k (zk_i zk_0)) rfl (wX7_tells hd h (fun r e => ⟨by rw [e], rfl⟩))
def fX7_require_J18 (v0 : Nat) (v1 : Int32) (mm : zM) : Option zM :=
  zob (zin v1 26) (some ((wi mm 32 v0 (zn v1) 0)))
def fX7_require (v0 : Nat) (v1 : Int32) (mm : zM) : Option zM :=
  (fX7_tells v0 v1 mm).bind (fun x1 => if x1 = 0 then (fX7_require_J18 v0 v1 ((wi mm 7 v0 2 ((((gi mm 7 v0 2)) + 1))))) else (fX7_require_J18 v0 v1 mm))
theorem wX7_require_J18 {E : zE} {d : Nat} (hd : 1 ≤ d) {Q : Option zV → zM → Prop} {v0 : Nat} {v1 : Int32} {mm : zM} {o : zM} (h : fX7_require_J18 v0 v1 mm = some o) (hQ : ∀ r, o = r → Q none r) : V E RX7 cX7_require 2 none d Q 18 [some (zK 7 v0), some (zI v1)] [] mm := by
  unfold fX7_require_J18 at h
  refine V_aload_n 19 rfl 0 dX7_require_18 rfl rfl ?_
  refine V_getr 22 rfl 32 v0 dX7_require_19 fl_X7_25 rfl rfl rfl ?_
  refine V_iload_n 23 rfl 1 dX7_require_22 rfl rfl ?_
  refine V_iconst 24 rfl (v := 0) dX7_require_23 (by decide) ?_
  obtain ⟨hi, h⟩ := zobd h
  refine V_iast 25 rfl dX7_require_24 rfl hi ?_
  exact V_vret dX7_require_25 rfl (hQ ((wi mm 32 v0 (zn v1) 0)) (zinj h))
theorem wX7_require {E : zE} {d : Nat} (hd : 1 ≤ d) {Q : Option zV → zM → Prop} {v0 : Nat} {v1 : Int32} {mm : zM} {o : zM} (h : fX7_require v0 v1 mm = some o) (hQ : ∀ r, o = r → Q none r) : V E RX7 cX7_require 2 none d Q 0 [some (zK 7 v0), some (zI v1)] [] mm := by
  unfold fX7_require at h
  refine V_aload_n 1 rfl 0 dX7_require_0 rfl rfl ?_
  refine V_iload_n 2 rfl 1 dX7_require_1 rfl rfl ?_
  obtain ⟨x1, h1, h⟩ := zbd h
  refine V_cV 5 rfl 0 [zI v1] [] dX7_require_2 cv_X7_54 (ctX7_tells (Nat.le_refl 0) h1) (Nat.le_trans (by decide) hd) rfl rfl (Nat.le_of_ble_eq_true rfl) zoki rfl ?_
  refine V_if_ne 8 18 rfl dX7_require_5 (by decide) (fun c => ?_) (fun c => ?_)
  · have h := zneg c h
    exact wX7_require_J18 hd h hQ
  · have h := zpos c h
    refine V_aload_n 9 rfl 0 dX7_require_8 rfl rfl ?_
    refine V_dup 10 rfl dX7_require_9 rfl ?_
    refine V_geti 13 rfl dX7_require_10 fl_X7_42 rfl ?_
    refine V_iconst 14 rfl (v := 1) dX7_require_13 (by decide) ?_
    refine V_iadd 15 rfl dX7_require_14 ?_
    refine V_puti 18 rfl dX7_require_15 fw_X7_42 rfl rfl rfl ?_
    exact wX7_require_J18 hd h hQ
theorem ctX7_require {E : zE} {d : Nat} (hd : 1 ≤ d) {v0 : Nat} {v1 : Int32} {mm : zM} {o : zM} (h : fX7_require v0 v1 mm = some o) : zOC E yX7_require cX7_require 2 none d [zK 7 v0, zI v1] mm none o :=
  zCT_of (by decide) (Nat.le_of_ble_eq_true rfl) (zk_k (zk_i zk_0)) rfl (wX7_require hd h (fun r e => ⟨rfl, by rw [e]⟩))
def fX4_numberHere_L7 (mm : zM) (s : (Int32 × Int32)) : Option ((Int32 × Int32) ⊕ (Int32 ⊕ Int32)) :=
  if (gi mm 4 0 3) ≤ s.2 then (some (.inr (.inl s.1))) else (zob (gr mm 4 0 == some 0) (zob (zin s.2 400) (if (((((s.1 * 10)) + ((gi mm 36 0 (zn s.2))))) - 48) ≤ 999 then (some (.inl ((((((s.1 * 10)) + ((gi mm 36 0 (zn s.2))))) - 48), (s.2 + 1)))) else (some (.inr (.inr ((-2))))))))
def fX4_numberHere (mm : zM) : Option Int32 :=
  (zloop (fX4_numberHere_L7 mm) zF (0, (gi mm 4 0 2))).bind (fun o3 => zcase o3 (fun y1 => some y1) (fun r2 => some r2))
theorem wX4_numberHere_L7 {E : zE} {d : Nat} (hd : 0 ≤ d) {Q : Option zV → zM → Prop} {mm : zM} {n : Nat} {s : (Int32 × Int32)} {o : Int32 ⊕ Int32} (h : zloop (fX4_numberHere_L7 mm) n s = some o) (he : ∀ y : Int32, o = .inl y → V E RX4 cX4_numberHere 3 (some .int) d Q 46 [none, some (zI y), none] [] mm) (hr : ∀ r : Int32, o = .inr r → Q (some (zI r)) mm) : V E RX4 cX4_numberHere 3 (some .int) d Q 7 [some (zK 4 0), some (zI s.1), some (zI s.2)] [] mm := by
  induction n generalizing s with
  | zero => exact (zloop_0 h).elim
  | succ n ih =>
    obtain ⟨o1, h1, hc1, he1⟩ := zloop_s h
    have kc : ∀ s' : (Int32 × Int32), o1 = .inl s' → V E RX4 cX4_numberHere 3 (some .int) d Q 7 [some (zK 4 0), some (zI s'.1), some (zI s'.2)] [] mm := fun s' e => ih (hc1 s' e)
    have ke : ∀ y : Int32, o1 = .inr (.inl y) → V E RX4 cX4_numberHere 3 (some .int) d Q 46 [none, some (zI y), none] [] mm := fun y e => he y (he1 _ e)
    have kr : ∀ r : Int32, o1 = .inr (.inr r) → Q (some (zI r)) mm := fun r e => hr r (he1 _ e)
    clear h hc1 he1 ih
    have h := h1
    clear h1
    unfold fX4_numberHere_L7 at h
    refine V_iload_n 8 rfl 2 dX4_numberHere_7 rfl rfl ?_
    refine V_aload_n 9 rfl 0 dX4_numberHere_8 rfl rfl ?_
    refine V_geti 12 rfl dX4_numberHere_9 fl_X4_37 rfl ?_
    refine V_icmp_ge 15 46 rfl dX4_numberHere_12 (by decide) (fun c => ?_) (fun c => ?_)
    · have h := zpos c h
      exact V_w (zsub_n (zsub_s (zsub_n zsub_0))) (ke s.1 (zinj h))
    · have h := zneg c h
      refine V_iload_n 16 rfl 1 dX4_numberHere_15 rfl rfl ?_
      refine V_bipush 18 rfl (v := 10) dX4_numberHere_16 (by decide) ?_
      refine V_imul 19 rfl dX4_numberHere_18 ?_
      refine V_aload_n 20 rfl 0 dX4_numberHere_19 rfl rfl ?_
      obtain ⟨hi, h⟩ := zobd h
      refine V_getm 23 rfl 36 dX4_numberHere_20 fl_X4_9 rfl rfl (eq_of_beq hi) ?_
      refine V_iload_n 24 rfl 2 dX4_numberHere_23 rfl rfl ?_
      obtain ⟨hi, h⟩ := zobd h
      refine V_bald 25 rfl dX4_numberHere_24 rfl hi ?_
      refine V_iadd 26 rfl dX4_numberHere_25 ?_
      refine V_bipush 28 rfl (v := 48) dX4_numberHere_26 (by decide) ?_
      refine V_isub 29 rfl dX4_numberHere_28 ?_
      refine V_istore_n 30 rfl 1 (L' := [some (zK 4 0), some (zI (((((s.1 * 10)) + ((gi mm 36 0 (zn s.2))))) - 48)), some (zI s.2)]) dX4_numberHere_29 rfl (by decide) rfl ?_
      refine V_iload_n 31 rfl 1 dX4_numberHere_30 rfl rfl ?_
      refine V_sipush 34 rfl (v := 999) dX4_numberHere_31 (by decide) ?_
      refine V_icmp_le 37 40 rfl dX4_numberHere_34 (by decide) (fun c => ?_) (fun c => ?_)
      · have h := zpos c h
        refine V_iinc 43 rfl (s.2 + 1) (L' := [some (zK 4 0), some (zI (((((s.1 * 10)) + ((gi mm 36 0 (zn s.2))))) - 48)), some (zI (s.2 + 1))]) dX4_numberHere_40 rfl rfl (by decide) rfl ?_
        refine V_goto 7 dX4_numberHere_43 (by decide) ?_
        exact kc ((((((s.1 * 10)) + ((gi mm 36 0 (zn s.2))))) - 48), (s.2 + 1)) (zinj h)
      · have h := zneg c h
        refine V_bipush 39 rfl (v := (-2)) dX4_numberHere_37 (by decide) ?_
        exact V_iret dX4_numberHere_39 rfl (kr ((-2)) (zinj h))
theorem wX4_numberHere {E : zE} {d : Nat} (hd : 0 ≤ d) {Q : Option zV → zM → Prop} {mm : zM} {o : Int32} (h : fX4_numberHere mm = some o) (hQ : ∀ r, o = r → Q (some (zI r)) mm) : V E RX4 cX4_numberHere 3 (some .int) d Q 0 [some (zK 4 0), none, none] [] mm := by
  unfold fX4_numberHere at h
  refine V_iconst 1 rfl (v := 0) dX4_numberHere_0 (by decide) ?_
  refine V_istore_n 2 rfl 1 (L' := [some (zK 4 0), some (zI 0), none]) dX4_numberHere_1 rfl (by decide) rfl ?_
  refine V_aload_n 3 rfl 0 dX4_numberHere_2 rfl rfl ?_
  refine V_geti 6 rfl dX4_numberHere_3 fl_X4_43 rfl ?_
  refine V_istore_n 7 rfl 2 (L' := [some (zK 4 0), some (zI 0), some (zI (gi mm 4 0 2))]) dX4_numberHere_6 rfl (by decide) rfl ?_
  obtain ⟨o3, h1, h⟩ := zbd h
  refine wX4_numberHere_L7 hd h1 (fun y1 e => ?_) (fun r e => by have h := zcr_ e h; exact hQ r (zinj h))
  have h := zcl_ e h
  refine V_iload_n 47 rfl 1 dX4_numberHere_46 rfl rfl ?_
  exact V_iret dX4_numberHere_47 rfl (hQ y1 (zinj h))
theorem ctX4_numberHere {E : zE} {d : Nat} (hd : 0 ≤ d) {mm : zM} {o : Int32} (h : fX4_numberHere mm = some o) : zOC E yX4_numberHere cX4_numberHere 3 (some .int) d [zK 4 0] mm (some (zI o)) mm :=
  zCT_of (by decide) (Nat.le_of_ble_eq_true rfl) (zk_k zk_0) rfl (wX4_numberHere hd h (fun r e => ⟨by rw [e], rfl⟩))
def fX4_termHere_J23 (mm : zM) : Option Int32 :=
  (fX4_isWord 4 mm).bind (fun x1 => if x1 = 0 then ((fX4_memberHere mm).bind (fun x2 => if x2 = (-1) then (some ((-1))) else (some ((1001 + x2))))) else (some 1000))
def fX4_termHere (mm : zM) : Option Int32 :=
  if (gi mm 4 0 4) < 48 then (fX4_termHere_J23  mm) else (if 57 < (gi mm 4 0 4) then (fX4_termHere_J23  mm) else ((fX4_numberHere mm).bind (fun x3 => some x3)))
theorem wX4_termHere_J23 {E : zE} {d : Nat} (hd : 7 ≤ d) {Q : Option zV → zM → Prop} {mm : zM} {o : Int32} (h : fX4_termHere_J23  mm = some o) (hQ : ∀ r, o = r → Q (some (zI r)) mm) : V E RX4 cX4_termHere 2 (some .int) d Q 23 [some (zK 4 0), none] [] mm := by
  unfold fX4_termHere_J23 at h
  refine V_aload_n 24 rfl 0 dX4_termHere_23 rfl rfl ?_
  refine V_ldcS 26 rfl (tx := "super") (i := 4) dX4_termHere_24 (by decide) (by decide) ?_
  obtain ⟨x1, h1, h⟩ := zbd h
  refine V_cV 29 rfl 6 [zK 61 4] [] dX4_termHere_26 cv_X4_62 (ctX4_isWord (Nat.le_refl 6) h1) (Nat.le_trans (by decide) hd) rfl rfl (Nat.le_of_ble_eq_true rfl) zoki rfl ?_
  refine V_if_eq 32 36 rfl dX4_termHere_29 (by decide) (fun c => ?_) (fun c => ?_)
  · have h := zpos c h
    refine V_aload_n 37 rfl 0 dX4_termHere_36 rfl rfl ?_
    obtain ⟨x2, h1, h⟩ := zbd h
    refine V_cV 40 rfl 0 [] [] dX4_termHere_37 cv_X4_141 (ctX4_memberHere (Nat.le_refl 0) h1) (Nat.le_trans (by decide) hd) rfl rfl (Nat.le_of_ble_eq_true rfl) zoki rfl ?_
    refine V_istore_n 41 rfl 1 (L' := [some (zK 4 0), some (zI x2)]) dX4_termHere_40 rfl (by decide) rfl ?_
    refine V_iload_n 42 rfl 1 dX4_termHere_41 rfl rfl ?_
    refine V_iconst 43 rfl (v := (-1)) dX4_termHere_42 (by decide) ?_
    refine V_icmp_ne 46 50 rfl dX4_termHere_43 (by decide) (fun c => ?_) (fun c => ?_)
    · have h := zneg c h
      refine V_sipush 53 rfl (v := 1001) dX4_termHere_50 (by decide) ?_
      refine V_iload_n 54 rfl 1 dX4_termHere_53 rfl rfl ?_
      refine V_iadd 55 rfl dX4_termHere_54 ?_
      exact V_iret dX4_termHere_55 rfl (hQ ((1001 + x2)) (zinj h))
    · have h := zpos c h
      refine V_iconst 47 rfl (v := (-1)) dX4_termHere_46 (by decide) ?_
      refine V_goto 55 dX4_termHere_47 (by decide) ?_
      exact V_iret dX4_termHere_55 rfl (hQ ((-1)) (zinj h))
  · have h := zneg c h
    refine V_sipush 35 rfl (v := 1000) dX4_termHere_32 (by decide) ?_
    exact V_iret dX4_termHere_35 rfl (hQ 1000 (zinj h))
theorem wX4_termHere {E : zE} {d : Nat} (hd : 7 ≤ d) {Q : Option zV → zM → Prop} {mm : zM} {o : Int32} (h : fX4_termHere mm = some o) (hQ : ∀ r, o = r → Q (some (zI r)) mm) : V E RX4 cX4_termHere 2 (some .int) d Q 0 [some (zK 4 0), none] [] mm := by
  unfold fX4_termHere at h
  refine V_aload_n 1 rfl 0 dX4_termHere_0 rfl rfl ?_
  refine V_geti 4 rfl dX4_termHere_1 fl_X4_53 rfl ?_
  refine V_bipush 6 rfl (v := 48) dX4_termHere_4 (by decide) ?_
  refine V_icmp_lt 9 23 rfl dX4_termHere_6 (by decide) (fun c => ?_) (fun c => ?_)
  · have h := zpos c h
    exact wX4_termHere_J23 hd h hQ
  · have h := zneg c h
    refine V_aload_n 10 rfl 0 dX4_termHere_9 rfl rfl ?_
    refine V_geti 13 rfl dX4_termHere_10 fl_X4_53 rfl ?_
    refine V_bipush 15 rfl (v := 57) dX4_termHere_13 (by decide) ?_
    refine V_icmp_gt 18 23 rfl dX4_termHere_15 (by decide) (fun c => ?_) (fun c => ?_)
    · have h := zpos c h
      exact wX4_termHere_J23 hd h hQ
    · have h := zneg c h
      refine V_aload_n 19 rfl 0 dX4_termHere_18 rfl rfl ?_
      obtain ⟨x3, h1, h⟩ := zbd h
      refine V_cV 22 rfl 0 [] [] dX4_termHere_19 cv_X4_168 (ctX4_numberHere (Nat.le_refl 0) h1) (Nat.le_trans (by decide) hd) rfl rfl (Nat.le_of_ble_eq_true rfl) zoki rfl ?_
      exact V_iret dX4_termHere_22 rfl (hQ x3 (zinj h))
theorem ctX4_termHere {E : zE} {d : Nat} (hd : 7 ≤ d) {mm : zM} {o : Int32} (h : fX4_termHere mm = some o) : zOC E yX4_termHere cX4_termHere 2 (some .int) d [zK 4 0] mm (some (zI o)) mm :=
  zCT_of (by decide) (Nat.le_of_ble_eq_true rfl) (zk_k zk_0) rfl (wX4_termHere hd h (fun r e => ⟨by rw [e], rfl⟩))
def fX7_addTerm (v0 : Nat) (v1 : Int32) (v2 : Int32) (mm : zM) : Option zM :=
  zob (zin v1 26) (if (gi mm 32 v0 (zn v1)) < 0 then (some mm) else (if 4 ≤ (gi mm 32 v0 (zn v1)) then (some mm) else (zob (zin ((((v1 * 4)) + ((gi mm 32 v0 (zn v1))))) 104) (zob (zin v1 26) (some ((wi ((wi mm 33 v0 (zn ((((v1 * 4)) + ((gi mm 32 v0 (zn v1)))))) v2)) 32 v0 (zn v1) ((((gi mm 32 v0 (zn v1))) + 1)))))))))
theorem wX7_addTerm {E : zE} {d : Nat} (hd : 0 ≤ d) {Q : Option zV → zM → Prop} {v0 : Nat} {v1 : Int32} {v2 : Int32} {mm : zM} {o : zM} (h : fX7_addTerm v0 v1 v2 mm = some o) (hQ : ∀ r, o = r → Q none r) : V E RX7 cX7_addTerm 4 none d Q 0 [some (zK 7 v0), some (zI v1), some (zI v2), none] [] mm := by
  unfold fX7_addTerm at h
  refine V_aload_n 1 rfl 0 dX7_addTerm_0 rfl rfl ?_
  refine V_getr 4 rfl 32 v0 dX7_addTerm_1 fl_X7_25 rfl rfl rfl ?_
  refine V_iload_n 5 rfl 1 dX7_addTerm_4 rfl rfl ?_
  obtain ⟨hi, h⟩ := zobd h
  refine V_iald 6 rfl dX7_addTerm_5 rfl hi ?_
  refine V_istore_n 7 rfl 3 (L' := [some (zK 7 v0), some (zI v1), some (zI v2), some (zI (gi mm 32 v0 (zn v1)))]) dX7_addTerm_6 rfl (by decide) rfl ?_
  refine V_iload_n 8 rfl 3 dX7_addTerm_7 rfl rfl ?_
  refine V_if_lt 11 36 rfl dX7_addTerm_8 (by decide) (fun c => ?_) (fun c => ?_)
  · have h := zpos c h
    exact V_vret dX7_addTerm_36 rfl (hQ mm (zinj h))
  · have h := zneg c h
    refine V_iload_n 12 rfl 3 dX7_addTerm_11 rfl rfl ?_
    refine V_iconst 13 rfl (v := 4) dX7_addTerm_12 (by decide) ?_
    refine V_icmp_ge 16 36 rfl dX7_addTerm_13 (by decide) (fun c => ?_) (fun c => ?_)
    · have h := zpos c h
      exact V_vret dX7_addTerm_36 rfl (hQ mm (zinj h))
    · have h := zneg c h
      refine V_aload_n 17 rfl 0 dX7_addTerm_16 rfl rfl ?_
      refine V_getr 20 rfl 33 v0 dX7_addTerm_17 fl_X7_28 rfl rfl rfl ?_
      refine V_iload_n 21 rfl 1 dX7_addTerm_20 rfl rfl ?_
      refine V_iconst 22 rfl (v := 4) dX7_addTerm_21 (by decide) ?_
      refine V_imul 23 rfl dX7_addTerm_22 ?_
      refine V_iload_n 24 rfl 3 dX7_addTerm_23 rfl rfl ?_
      refine V_iadd 25 rfl dX7_addTerm_24 ?_
      refine V_iload_n 26 rfl 2 dX7_addTerm_25 rfl rfl ?_
      obtain ⟨hi, h⟩ := zobd h
      refine V_iast 27 rfl dX7_addTerm_26 rfl hi ?_
      refine V_aload_n 28 rfl 0 dX7_addTerm_27 rfl rfl ?_
      refine V_getr 31 rfl 32 v0 dX7_addTerm_28 fl_X7_25 rfl rfl rfl ?_
      refine V_iload_n 32 rfl 1 dX7_addTerm_31 rfl rfl ?_
      refine V_iload_n 33 rfl 3 dX7_addTerm_32 rfl rfl ?_
      refine V_iconst 34 rfl (v := 1) dX7_addTerm_33 (by decide) ?_
      refine V_iadd 35 rfl dX7_addTerm_34 ?_
      obtain ⟨hi, h⟩ := zobd h
      refine V_iast 36 rfl dX7_addTerm_35 rfl hi ?_
      exact V_vret dX7_addTerm_36 rfl (hQ ((wi ((wi mm 33 v0 (zn ((((v1 * 4)) + ((gi mm 32 v0 (zn v1)))))) v2)) 32 v0 (zn v1) ((((gi mm 32 v0 (zn v1))) + 1)))) (zinj h))
theorem ctX7_addTerm {E : zE} {d : Nat} (hd : 0 ≤ d) {v0 : Nat} {v1 : Int32} {v2 : Int32} {mm : zM} {o : zM} (h : fX7_addTerm v0 v1 v2 mm = some o) : zOC E yX7_addTerm cX7_addTerm 4 none d [zK 7 v0, zI v1, zI v2] mm none o :=
  zCT_of (by decide) (Nat.le_of_ble_eq_true rfl) (zk_k (zk_i (zk_i zk_0))) rfl (wX7_addTerm hd h (fun r e => ⟨rfl, by rw [e]⟩))
def fX4_refuse (v1 : Int32) (mm : zM) : Option (Int32 × zM) :=
  some ((0, (wi mm 4 0 5 ((((8 * ((gi mm 4 0 2)))) + v1)))))
theorem wX4_refuse {E : zE} {d : Nat} (hd : 0 ≤ d) {Q : Option zV → zM → Prop} {v1 : Int32} {mm : zM} {o : (Int32 × zM)} (h : fX4_refuse v1 mm = some o) (hQ : ∀ r, o = r → Q (some (zI r.1)) r.2) : V E RX4 cX4_refuse 2 (some .boolean) d Q 0 [some (zK 4 0), some (zI v1)] [] mm := by
  unfold fX4_refuse at h
  refine V_aload_n 1 rfl 0 dX4_refuse_0 rfl rfl ?_
  refine V_bipush 3 rfl (v := 8) dX4_refuse_1 (by decide) ?_
  refine V_aload_n 4 rfl 0 dX4_refuse_3 rfl rfl ?_
  refine V_geti 7 rfl dX4_refuse_4 fl_X4_43 rfl ?_
  refine V_imul 8 rfl dX4_refuse_7 ?_
  refine V_iload_n 9 rfl 1 dX4_refuse_8 rfl rfl ?_
  refine V_iadd 10 rfl dX4_refuse_9 ?_
  refine V_puti 13 rfl dX4_refuse_10 fw_X4_34 rfl rfl rfl ?_
  refine V_iconst 14 rfl (v := 0) dX4_refuse_13 (by decide) ?_
  exact V_zret dX4_refuse_14 rfl rfl (hQ ((0, (wi mm 4 0 5 ((((8 * ((gi mm 4 0 2)))) + v1))))) (zinj h))
theorem ctX4_refuse {E : zE} {d : Nat} (hd : 0 ≤ d) {v1 : Int32} {mm : zM} {o : (Int32 × zM)} (h : fX4_refuse v1 mm = some o) : zOC E yX4_refuse cX4_refuse 2 (some .boolean) d [zK 4 0, zI v1] mm (some (zI o.1)) o.2 :=
  zCT_of (by decide) (Nat.le_of_ble_eq_true rfl) (zk_k (zk_i zk_0)) rfl (wX4_refuse hd h (fun r e => ⟨by rw [e], by rw [e]⟩))
def fX4_readTerms_J31 (s0 : Int32) (mm : zM) : Option ((Int32 × zM) ⊕ (zM ⊕ (Int32 × zM))) :=
  (fX4_refuse s0 mm).bind (fun x6 => zob (zbo x6.1) (some (.inr (.inr ((x6.1, x6.2))))))
def fX4_readTerms_L2 (v1 : Nat) (v2 : Int32) (s : (Int32 × zM)) : Option ((Int32 × zM) ⊕ (zM ⊕ (Int32 × zM))) :=
  if 4 < s.1 then (some (.inr (.inl s.2))) else ((fX4_termHere s.2).bind (fun x1 => if 0 ≤ x1 then (if s.1 < 4 then ((fX7_addTerm v1 v2 x1 s.2).bind (fun x2 => (fX4_pass x2).bind (fun x3 => if (gi x3 4 0 4) = 43 then ((fX4_pass x3).bind (fun x4 => some (.inl ((s.1 + 1), x4)))) else (some (.inr (.inr ((1, x3)))))))) else ((fX4_refuse 3 s.2).bind (fun x5 => zob (zbo x5.1) (some (.inr (.inr ((x5.1, x5.2)))))))) else (if x1 = (-2) then (fX4_readTerms_J31 2 s.2) else (fX4_readTerms_J31 1 s.2))))
def fX4_readTerms (v1 : Nat) (v2 : Int32) (mm : zM) : Option (Int32 × zM) :=
  (zloop (fX4_readTerms_L2 v1 v2) zF (0, mm)).bind (fun o9 => zcase o9 (fun y7 => some ((1, y7))) (fun r8 => some r8))
theorem wX4_readTerms_J31 {E : zE} {d : Nat} (hd : 8 ≤ d) {Q : Option zV → zM → Prop} {v1 : Nat} {v2 : Int32} {s0 : Int32} {mm : zM} {o : ((Int32 × zM) ⊕ (zM ⊕ (Int32 × zM)))} (h : fX4_readTerms_J31 s0 mm = some o) (kc : ∀ s' : (Int32 × zM), o = .inl s' → V E RX4 cX4_readTerms 5 (some .boolean) d Q 2 [some (zK 4 0), some (zK 7 v1), some (zI v2), some (zI s'.1), none] [] s'.2) (ke : ∀ y : zM, o = .inr (.inl y) → V E RX4 cX4_readTerms 5 (some .boolean) d Q 78 [none, none, none, none, none] [] y) (kr : ∀ r : (Int32 × zM), o = .inr (.inr r) → Q (some (zI r.1)) r.2) : V E RX4 cX4_readTerms 5 (some .boolean) d Q 31 [none, none, none, none, none] [zI s0, zK 4 0] mm := by
  unfold fX4_readTerms_J31 at h
  obtain ⟨x6, h1, h⟩ := zbd h
  refine V_cV 34 rfl 0 [zI s0] [] dX4_readTerms_31 cv_X4_56 (ctX4_refuse (Nat.le_refl 0) h1) (Nat.le_trans (by decide) hd) rfl rfl (Nat.le_of_ble_eq_true rfl) zoki rfl ?_
  obtain ⟨hi, h⟩ := zobd h
  exact V_zret dX4_readTerms_34 rfl (zbo_n hi) (kr ((x6.1, x6.2)) (zinj h))
theorem wX4_readTerms_L2 {E : zE} {d : Nat} (hd : 8 ≤ d) {Q : Option zV → zM → Prop} {v1 : Nat} {v2 : Int32} {n : Nat} {s : (Int32 × zM)} {o : zM ⊕ (Int32 × zM)} (h : zloop (fX4_readTerms_L2 v1 v2) n s = some o) (he : ∀ y : zM, o = .inl y → V E RX4 cX4_readTerms 5 (some .boolean) d Q 78 [none, none, none, none, none] [] y) (hr : ∀ r : (Int32 × zM), o = .inr r → Q (some (zI r.1)) r.2) : V E RX4 cX4_readTerms 5 (some .boolean) d Q 2 [some (zK 4 0), some (zK 7 v1), some (zI v2), some (zI s.1), none] [] s.2 := by
  induction n generalizing s with
  | zero => exact (zloop_0 h).elim
  | succ n ih =>
    obtain ⟨o1, h1, hc1, he1⟩ := zloop_s h
    have kc : ∀ s' : (Int32 × zM), o1 = .inl s' → V E RX4 cX4_readTerms 5 (some .boolean) d Q 2 [some (zK 4 0), some (zK 7 v1), some (zI v2), some (zI s'.1), none] [] s'.2 := fun s' e => ih (hc1 s' e)
    have ke : ∀ y : zM, o1 = .inr (.inl y) → V E RX4 cX4_readTerms 5 (some .boolean) d Q 78 [none, none, none, none, none] [] y := fun y e => he y (he1 _ e)
    have kr : ∀ r : (Int32 × zM), o1 = .inr (.inr r) → Q (some (zI r.1)) r.2 := fun r e => hr r (he1 _ e)
    clear h hc1 he1 ih
    have h := h1
    clear h1
    unfold fX4_readTerms_L2 at h
    refine V_iload_n 3 rfl 3 dX4_readTerms_2 rfl rfl ?_
    refine V_iconst 4 rfl (v := 4) dX4_readTerms_3 (by decide) ?_
    refine V_icmp_gt 7 78 rfl dX4_readTerms_4 (by decide) (fun c => ?_) (fun c => ?_)
    · have h := zpos c h
      exact V_w (zsub_n (zsub_n (zsub_n (zsub_n (zsub_s zsub_0))))) (ke s.2 (zinj h))
    · have h := zneg c h
      refine V_aload_n 8 rfl 0 dX4_readTerms_7 rfl rfl ?_
      obtain ⟨x1, h1, h⟩ := zbd h
      refine V_cV 11 rfl 7 [] [] dX4_readTerms_8 cv_X4_161 (ctX4_termHere (Nat.le_refl 7) h1) (Nat.le_trans (by decide) hd) rfl rfl (Nat.le_of_ble_eq_true rfl) zoki rfl ?_
      refine V_istore 13 rfl (L' := [some (zK 4 0), some (zK 7 v1), some (zI v2), some (zI s.1), some (zI x1)]) dX4_readTerms_11 (by decide) rfl ?_
      refine V_iload 15 rfl dX4_readTerms_13 rfl ?_
      refine V_if_ge 18 35 rfl dX4_readTerms_15 (by decide) (fun c => ?_) (fun c => ?_)
      · have h := zpos c h
        refine V_iload_n 36 rfl 3 dX4_readTerms_35 rfl rfl ?_
        refine V_iconst 37 rfl (v := 4) dX4_readTerms_36 (by decide) ?_
        refine V_icmp_lt 40 46 rfl dX4_readTerms_37 (by decide) (fun c => ?_) (fun c => ?_)
        · have h := zpos c h
          refine V_aload_n 47 rfl 1 dX4_readTerms_46 rfl rfl ?_
          refine V_iload_n 48 rfl 2 dX4_readTerms_47 rfl rfl ?_
          refine V_iload 50 rfl dX4_readTerms_48 rfl ?_
          obtain ⟨x2, h1, h⟩ := zbd h
          refine V_cV 53 rfl 0 [zI v2, zI x1] [] dX4_readTerms_50 cv_X4_164 (ctX7_addTerm (Nat.le_refl 0) h1) (Nat.le_trans (by decide) hd) rfl rfl (Nat.le_of_ble_eq_true rfl) zokn rfl ?_
          refine V_aload_n 54 rfl 0 dX4_readTerms_53 rfl rfl ?_
          obtain ⟨x3, h1, h⟩ := zbd h
          refine V_cV 57 rfl 0 [] [] dX4_readTerms_54 cv_X4_40 (ctX4_pass (Nat.le_refl 0) h1) (Nat.le_trans (by decide) hd) rfl rfl (Nat.le_of_ble_eq_true rfl) zokn rfl ?_
          refine V_aload_n 58 rfl 0 dX4_readTerms_57 rfl rfl ?_
          refine V_geti 61 rfl dX4_readTerms_58 fl_X4_53 rfl ?_
          refine V_bipush 63 rfl (v := 43) dX4_readTerms_61 (by decide) ?_
          refine V_icmp_eq 66 68 rfl dX4_readTerms_63 (by decide) (fun c => ?_) (fun c => ?_)
          · have h := zpos c h
            refine V_aload_n 69 rfl 0 dX4_readTerms_68 rfl rfl ?_
            obtain ⟨x4, h1, h⟩ := zbd h
            refine V_cV 72 rfl 0 [] [] dX4_readTerms_69 cv_X4_40 (ctX4_pass (Nat.le_refl 0) h1) (Nat.le_trans (by decide) hd) rfl rfl (Nat.le_of_ble_eq_true rfl) zokn rfl ?_
            refine V_iinc 75 rfl (s.1 + 1) (L' := [some (zK 4 0), some (zK 7 v1), some (zI v2), some (zI (s.1 + 1)), some (zI x1)]) dX4_readTerms_72 rfl rfl (by decide) rfl ?_
            refine V_goto 2 dX4_readTerms_75 (by decide) ?_
            exact V_w (zsub_s (zsub_s (zsub_s (zsub_s (zsub_n zsub_0))))) (kc ((s.1 + 1), x4) (zinj h))
          · have h := zneg c h
            refine V_iconst 67 rfl (v := 1) dX4_readTerms_66 (by decide) ?_
            exact V_zret dX4_readTerms_67 rfl rfl (kr ((1, x3)) (zinj h))
        · have h := zneg c h
          refine V_aload_n 41 rfl 0 dX4_readTerms_40 rfl rfl ?_
          refine V_iconst 42 rfl (v := 3) dX4_readTerms_41 (by decide) ?_
          obtain ⟨x5, h1, h⟩ := zbd h
          refine V_cV 45 rfl 0 [zI 3] [] dX4_readTerms_42 cv_X4_56 (ctX4_refuse (Nat.le_refl 0) h1) (Nat.le_trans (by decide) hd) rfl rfl (Nat.le_of_ble_eq_true rfl) zoki rfl ?_
          obtain ⟨hi, h⟩ := zobd h
          exact V_zret dX4_readTerms_45 rfl (zbo_n hi) (kr ((x5.1, x5.2)) (zinj h))
      · have h := zneg c h
        refine V_aload_n 19 rfl 0 dX4_readTerms_18 rfl rfl ?_
        refine V_iload 21 rfl dX4_readTerms_19 rfl ?_
        refine V_bipush 23 rfl (v := (-2)) dX4_readTerms_21 (by decide) ?_
        refine V_icmp_ne 26 30 rfl dX4_readTerms_23 (by decide) (fun c => ?_) (fun c => ?_)
        · have h := zneg c h
          refine V_iconst 31 rfl (v := 1) dX4_readTerms_30 (by decide) ?_
          exact V_w (zsub_n (zsub_n (zsub_n (zsub_n (zsub_n zsub_0))))) (wX4_readTerms_J31 hd h kc ke kr)
        · have h := zpos c h
          refine V_iconst 27 rfl (v := 2) dX4_readTerms_26 (by decide) ?_
          refine V_goto 31 dX4_readTerms_27 (by decide) ?_
          exact V_w (zsub_n (zsub_n (zsub_n (zsub_n (zsub_n zsub_0))))) (wX4_readTerms_J31 hd h kc ke kr)
theorem wX4_readTerms {E : zE} {d : Nat} (hd : 8 ≤ d) {Q : Option zV → zM → Prop} {v1 : Nat} {v2 : Int32} {mm : zM} {o : (Int32 × zM)} (h : fX4_readTerms v1 v2 mm = some o) (hQ : ∀ r, o = r → Q (some (zI r.1)) r.2) : V E RX4 cX4_readTerms 5 (some .boolean) d Q 0 [some (zK 4 0), some (zK 7 v1), some (zI v2), none, none] [] mm := by
  unfold fX4_readTerms at h
  refine V_iconst 1 rfl (v := 0) dX4_readTerms_0 (by decide) ?_
  refine V_istore_n 2 rfl 3 (L' := [some (zK 4 0), some (zK 7 v1), some (zI v2), some (zI 0), none]) dX4_readTerms_1 rfl (by decide) rfl ?_
  obtain ⟨o9, h1, h⟩ := zbd h
  refine wX4_readTerms_L2 hd h1 (fun y7 e => ?_) (fun r e => by have h := zcr_ e h; exact hQ r (zinj h))
  have h := zcl_ e h
  refine V_iconst 79 rfl (v := 1) dX4_readTerms_78 (by decide) ?_
  exact V_zret dX4_readTerms_79 rfl rfl (hQ ((1, y7)) (zinj h))
theorem ctX4_readTerms {E : zE} {d : Nat} (hd : 8 ≤ d) {v1 : Nat} {v2 : Int32} {mm : zM} {o : (Int32 × zM)} (h : fX4_readTerms v1 v2 mm = some o) : zOC E yX4_readTerms cX4_readTerms 5 (some .boolean) d [zK 4 0, zK 7 v1, zI v2] mm (some (zI o.1)) o.2 :=
  zCT_of (by decide) (Nat.le_of_ble_eq_true rfl) (zk_k (zk_k (zk_i zk_0))) rfl (wX4_readTerms hd h (fun r e => ⟨by rw [e], by rw [e]⟩))
def fX4_readMembers_J111 (v1 : Nat) (v2 : Int32) (v3 : Int32) (v4 : Int32) (mm : zM) : Option ((Int32 × zM) ⊕ (zM ⊕ (Int32 × zM))) :=
  (fX4_pass mm).bind (fun x6 => if v4 = 0 then (some (.inl ((v2 + 1), x6))) else ((fX4_readTerms v1 v3 x6).bind (fun x7 => if x7.1 = 0 then (some (.inr (.inr ((0, x7.2))))) else (some (.inl ((v2 + 1), x7.2))))))
def fX4_readMembers_J89 (v1 : Nat) (v2 : Int32) (v3 : Int32) (s0 : Int32) (mm : zM) : Option ((Int32 × zM) ⊕ (zM ⊕ (Int32 × zM))) :=
  if s0 = 0 then (if (gi mm 4 0 4) = 63 then (fX4_readMembers_J111 v1 v2 v3 s0 mm) else ((fX4_refuse 1 mm).bind (fun x8 => zob (zbo x8.1) (some (.inr (.inr ((x8.1, x8.2)))))))) else (fX4_readMembers_J111 v1 v2 v3 s0 mm)
def fX4_readMembers_L6 (v1 : Nat) (s : (Int32 × zM)) : Option ((Int32 × zM) ⊕ (zM ⊕ (Int32 × zM))) :=
  if 8 < s.1 then (some (.inr (.inl s.2))) else ((fX4_memberHere s.2).bind (fun x2 => if x2 = (-1) then (if 0 < s.1 then (some (.inr (.inr ((1, s.2))))) else ((fX4_refuse 1 s.2).bind (fun x11 => if x11.1 = 0 then (some (.inr (.inr ((0, x11.2))))) else (some (.inr (.inr ((1, x11.2)))))))) else ((fX7_tells v1 x2 s.2).bind (fun x3 => if x3 = 0 then (if s.1 < 8 then ((fX7_require v1 x2 s.2).bind (fun x4 => (fX4_pass x4).bind (fun x5 => if (gi x5 4 0 4) = 61 then (fX4_readMembers_J89 v1 s.1 x2 1 x5) else (fX4_readMembers_J89 v1 s.1 x2 0 x5)))) else ((fX4_refuse 3 s.2).bind (fun x9 => zob (zbo x9.1) (some (.inr (.inr ((x9.1, x9.2)))))))) else ((fX4_refuse 2 s.2).bind (fun x10 => zob (zbo x10.1) (some (.inr (.inr ((x10.1, x10.2)))))))))))
def fX4_readMembers (v1 : Nat) (mm : zM) : Option (Int32 × zM) :=
  (fX4_pass mm).bind (fun x1 => (zloop (fX4_readMembers_L6 v1) zF (0, x1)).bind (fun o14 => zcase o14 (fun y12 => some ((1, y12))) (fun r13 => some r13)))
theorem wX4_readMembers_J111 {E : zE} {d : Nat} (hd : 9 ≤ d) {Q : Option zV → zM → Prop} {v1 : Nat} {v2 : Int32} {v3 : Int32} {v4 : Int32} {mm : zM} {o : ((Int32 × zM) ⊕ (zM ⊕ (Int32 × zM)))} (h : fX4_readMembers_J111 v1 v2 v3 v4 mm = some o) (kc : ∀ s' : (Int32 × zM), o = .inl s' → V E RX4 cX4_readMembers 5 (some .boolean) d Q 6 [some (zK 4 0), some (zK 7 v1), some (zI s'.1), none, none] [] s'.2) (ke : ∀ y : zM, o = .inr (.inl y) → V E RX4 cX4_readMembers 5 (some .boolean) d Q 137 [none, none, none, none, none] [] y) (kr : ∀ r : (Int32 × zM), o = .inr (.inr r) → Q (some (zI r.1)) r.2) : V E RX4 cX4_readMembers 5 (some .boolean) d Q 111 [some (zK 4 0), some (zK 7 v1), some (zI v2), some (zI v3), some (zI v4)] [] mm := by
  unfold fX4_readMembers_J111 at h
  refine V_aload_n 112 rfl 0 dX4_readMembers_111 rfl rfl ?_
  obtain ⟨x6, h1, h⟩ := zbd h
  refine V_cV 115 rfl 0 [] [] dX4_readMembers_112 cv_X4_40 (ctX4_pass (Nat.le_refl 0) h1) (Nat.le_trans (by decide) hd) rfl rfl (Nat.le_of_ble_eq_true rfl) zokn rfl ?_
  refine V_iload 117 rfl dX4_readMembers_115 rfl ?_
  refine V_if_eq 120 131 rfl dX4_readMembers_117 (by decide) (fun c => ?_) (fun c => ?_)
  · have h := zpos c h
    refine V_iinc 134 rfl (v2 + 1) (L' := [some (zK 4 0), some (zK 7 v1), some (zI (v2 + 1)), some (zI v3), some (zI v4)]) dX4_readMembers_131 rfl rfl (by decide) rfl ?_
    refine V_goto 6 dX4_readMembers_134 (by decide) ?_
    exact V_w (zsub_s (zsub_s (zsub_s (zsub_n (zsub_n zsub_0))))) (kc ((v2 + 1), x6) (zinj h))
  · have h := zneg c h
    refine V_aload_n 121 rfl 0 dX4_readMembers_120 rfl rfl ?_
    refine V_aload_n 122 rfl 1 dX4_readMembers_121 rfl rfl ?_
    refine V_iload_n 123 rfl 3 dX4_readMembers_122 rfl rfl ?_
    obtain ⟨x7, h1, h⟩ := zbd h
    refine V_cV 126 rfl 8 [zK 7 v1, zI v3] [] dX4_readMembers_123 cv_X4_158 (ctX4_readTerms (Nat.le_refl 8) h1) (Nat.le_trans (by decide) hd) rfl rfl (Nat.le_of_ble_eq_true rfl) zoki rfl ?_
    refine V_if_ne 129 131 rfl dX4_readMembers_126 (by decide) (fun c => ?_) (fun c => ?_)
    · have h := zneg c h
      refine V_iinc 134 rfl (v2 + 1) (L' := [some (zK 4 0), some (zK 7 v1), some (zI (v2 + 1)), some (zI v3), some (zI v4)]) dX4_readMembers_131 rfl rfl (by decide) rfl ?_
      refine V_goto 6 dX4_readMembers_134 (by decide) ?_
      exact V_w (zsub_s (zsub_s (zsub_s (zsub_n (zsub_n zsub_0))))) (kc ((v2 + 1), x7.2) (zinj h))
    · have h := zpos c h
      refine V_iconst 130 rfl (v := 0) dX4_readMembers_129 (by decide) ?_
      exact V_zret dX4_readMembers_130 rfl rfl (kr ((0, x7.2)) (zinj h))
theorem wX4_readMembers_J89 {E : zE} {d : Nat} (hd : 9 ≤ d) {Q : Option zV → zM → Prop} {v1 : Nat} {v2 : Int32} {v3 : Int32} {s0 : Int32} {mm : zM} {o : ((Int32 × zM) ⊕ (zM ⊕ (Int32 × zM)))} (h : fX4_readMembers_J89 v1 v2 v3 s0 mm = some o) (kc : ∀ s' : (Int32 × zM), o = .inl s' → V E RX4 cX4_readMembers 5 (some .boolean) d Q 6 [some (zK 4 0), some (zK 7 v1), some (zI s'.1), none, none] [] s'.2) (ke : ∀ y : zM, o = .inr (.inl y) → V E RX4 cX4_readMembers 5 (some .boolean) d Q 137 [none, none, none, none, none] [] y) (kr : ∀ r : (Int32 × zM), o = .inr (.inr r) → Q (some (zI r.1)) r.2) : V E RX4 cX4_readMembers 5 (some .boolean) d Q 89 [some (zK 4 0), some (zK 7 v1), some (zI v2), some (zI v3), none] [zI s0] mm := by
  unfold fX4_readMembers_J89 at h
  refine V_istore 91 rfl (L' := [some (zK 4 0), some (zK 7 v1), some (zI v2), some (zI v3), some (zI s0)]) dX4_readMembers_89 (by decide) rfl ?_
  refine V_iload 93 rfl dX4_readMembers_91 rfl ?_
  refine V_if_ne 96 111 rfl dX4_readMembers_93 (by decide) (fun c => ?_) (fun c => ?_)
  · have h := zneg c h
    exact wX4_readMembers_J111 hd h kc ke kr
  · have h := zpos c h
    refine V_aload_n 97 rfl 0 dX4_readMembers_96 rfl rfl ?_
    refine V_geti 100 rfl dX4_readMembers_97 fl_X4_53 rfl ?_
    refine V_bipush 102 rfl (v := 63) dX4_readMembers_100 (by decide) ?_
    refine V_icmp_eq 105 111 rfl dX4_readMembers_102 (by decide) (fun c => ?_) (fun c => ?_)
    · have h := zpos c h
      exact wX4_readMembers_J111 hd h kc ke kr
    · have h := zneg c h
      refine V_aload_n 106 rfl 0 dX4_readMembers_105 rfl rfl ?_
      refine V_iconst 107 rfl (v := 1) dX4_readMembers_106 (by decide) ?_
      obtain ⟨x8, h1, h⟩ := zbd h
      refine V_cV 110 rfl 0 [zI 1] [] dX4_readMembers_107 cv_X4_56 (ctX4_refuse (Nat.le_refl 0) h1) (Nat.le_trans (by decide) hd) rfl rfl (Nat.le_of_ble_eq_true rfl) zoki rfl ?_
      obtain ⟨hi, h⟩ := zobd h
      exact V_zret dX4_readMembers_110 rfl (zbo_n hi) (kr ((x8.1, x8.2)) (zinj h))
theorem wX4_readMembers_L6 {E : zE} {d : Nat} (hd : 9 ≤ d) {Q : Option zV → zM → Prop} {v1 : Nat} {n : Nat} {s : (Int32 × zM)} {o : zM ⊕ (Int32 × zM)} (h : zloop (fX4_readMembers_L6 v1) n s = some o) (he : ∀ y : zM, o = .inl y → V E RX4 cX4_readMembers 5 (some .boolean) d Q 137 [none, none, none, none, none] [] y) (hr : ∀ r : (Int32 × zM), o = .inr r → Q (some (zI r.1)) r.2) : V E RX4 cX4_readMembers 5 (some .boolean) d Q 6 [some (zK 4 0), some (zK 7 v1), some (zI s.1), none, none] [] s.2 := by
  induction n generalizing s with
  | zero => exact (zloop_0 h).elim
  | succ n ih =>
    obtain ⟨o1, h1, hc1, he1⟩ := zloop_s h
    have kc : ∀ s' : (Int32 × zM), o1 = .inl s' → V E RX4 cX4_readMembers 5 (some .boolean) d Q 6 [some (zK 4 0), some (zK 7 v1), some (zI s'.1), none, none] [] s'.2 := fun s' e => ih (hc1 s' e)
    have ke : ∀ y : zM, o1 = .inr (.inl y) → V E RX4 cX4_readMembers 5 (some .boolean) d Q 137 [none, none, none, none, none] [] y := fun y e => he y (he1 _ e)
    have kr : ∀ r : (Int32 × zM), o1 = .inr (.inr r) → Q (some (zI r.1)) r.2 := fun r e => hr r (he1 _ e)
    clear h hc1 he1 ih
    have h := h1
    clear h1
    unfold fX4_readMembers_L6 at h
    refine V_iload_n 7 rfl 2 dX4_readMembers_6 rfl rfl ?_
    refine V_bipush 9 rfl (v := 8) dX4_readMembers_7 (by decide) ?_
    refine V_icmp_gt 12 137 rfl dX4_readMembers_9 (by decide) (fun c => ?_) (fun c => ?_)
    · have h := zpos c h
      exact V_w (zsub_n (zsub_n (zsub_n (zsub_s (zsub_s zsub_0))))) (ke s.2 (zinj h))
    · have h := zneg c h
      refine V_aload_n 13 rfl 0 dX4_readMembers_12 rfl rfl ?_
      obtain ⟨x2, h1, h⟩ := zbd h
      refine V_cV 16 rfl 0 [] [] dX4_readMembers_13 cv_X4_141 (ctX4_memberHere (Nat.le_refl 0) h1) (Nat.le_trans (by decide) hd) rfl rfl (Nat.le_of_ble_eq_true rfl) zoki rfl ?_
      refine V_istore_n 17 rfl 3 (L' := [some (zK 4 0), some (zK 7 v1), some (zI s.1), some (zI x2), none]) dX4_readMembers_16 rfl (by decide) rfl ?_
      refine V_iload_n 18 rfl 3 dX4_readMembers_17 rfl rfl ?_
      refine V_iconst 19 rfl (v := (-1)) dX4_readMembers_18 (by decide) ?_
      refine V_icmp_ne 22 40 rfl dX4_readMembers_19 (by decide) (fun c => ?_) (fun c => ?_)
      · have h := zneg c h
        refine V_aload_n 41 rfl 1 dX4_readMembers_40 rfl rfl ?_
        refine V_iload_n 42 rfl 3 dX4_readMembers_41 rfl rfl ?_
        obtain ⟨x3, h1, h⟩ := zbd h
        refine V_cV 45 rfl 0 [zI x2] [] dX4_readMembers_42 cv_X4_152 (ctX7_tells (Nat.le_refl 0) h1) (Nat.le_trans (by decide) hd) rfl rfl (Nat.le_of_ble_eq_true rfl) zoki rfl ?_
        refine V_if_eq 48 54 rfl dX4_readMembers_45 (by decide) (fun c => ?_) (fun c => ?_)
        · have h := zpos c h
          refine V_iload_n 55 rfl 2 dX4_readMembers_54 rfl rfl ?_
          refine V_bipush 57 rfl (v := 8) dX4_readMembers_55 (by decide) ?_
          refine V_icmp_lt 60 66 rfl dX4_readMembers_57 (by decide) (fun c => ?_) (fun c => ?_)
          · have h := zpos c h
            refine V_aload_n 67 rfl 1 dX4_readMembers_66 rfl rfl ?_
            refine V_iload_n 68 rfl 3 dX4_readMembers_67 rfl rfl ?_
            obtain ⟨x4, h1, h⟩ := zbd h
            refine V_cV 71 rfl 1 [zI x2] [] dX4_readMembers_68 cv_X4_155 (ctX7_require (Nat.le_refl 1) h1) (Nat.le_trans (by decide) hd) rfl rfl (Nat.le_of_ble_eq_true rfl) zokn rfl ?_
            refine V_aload_n 72 rfl 0 dX4_readMembers_71 rfl rfl ?_
            obtain ⟨x5, h1, h⟩ := zbd h
            refine V_cV 75 rfl 0 [] [] dX4_readMembers_72 cv_X4_40 (ctX4_pass (Nat.le_refl 0) h1) (Nat.le_trans (by decide) hd) rfl rfl (Nat.le_of_ble_eq_true rfl) zokn rfl ?_
            refine V_aload_n 76 rfl 0 dX4_readMembers_75 rfl rfl ?_
            refine V_geti 79 rfl dX4_readMembers_76 fl_X4_53 rfl ?_
            refine V_bipush 81 rfl (v := 61) dX4_readMembers_79 (by decide) ?_
            refine V_icmp_ne 84 88 rfl dX4_readMembers_81 (by decide) (fun c => ?_) (fun c => ?_)
            · have h := zneg c h
              refine V_iconst 89 rfl (v := 0) dX4_readMembers_88 (by decide) ?_
              exact wX4_readMembers_J89 hd h kc ke kr
            · have h := zpos c h
              refine V_iconst 85 rfl (v := 1) dX4_readMembers_84 (by decide) ?_
              refine V_goto 89 dX4_readMembers_85 (by decide) ?_
              exact wX4_readMembers_J89 hd h kc ke kr
          · have h := zneg c h
            refine V_aload_n 61 rfl 0 dX4_readMembers_60 rfl rfl ?_
            refine V_iconst 62 rfl (v := 3) dX4_readMembers_61 (by decide) ?_
            obtain ⟨x9, h1, h⟩ := zbd h
            refine V_cV 65 rfl 0 [zI 3] [] dX4_readMembers_62 cv_X4_56 (ctX4_refuse (Nat.le_refl 0) h1) (Nat.le_trans (by decide) hd) rfl rfl (Nat.le_of_ble_eq_true rfl) zoki rfl ?_
            obtain ⟨hi, h⟩ := zobd h
            exact V_zret dX4_readMembers_65 rfl (zbo_n hi) (kr ((x9.1, x9.2)) (zinj h))
        · have h := zneg c h
          refine V_aload_n 49 rfl 0 dX4_readMembers_48 rfl rfl ?_
          refine V_iconst 50 rfl (v := 2) dX4_readMembers_49 (by decide) ?_
          obtain ⟨x10, h1, h⟩ := zbd h
          refine V_cV 53 rfl 0 [zI 2] [] dX4_readMembers_50 cv_X4_56 (ctX4_refuse (Nat.le_refl 0) h1) (Nat.le_trans (by decide) hd) rfl rfl (Nat.le_of_ble_eq_true rfl) zoki rfl ?_
          obtain ⟨hi, h⟩ := zobd h
          exact V_zret dX4_readMembers_53 rfl (zbo_n hi) (kr ((x10.1, x10.2)) (zinj h))
      · have h := zpos c h
        refine V_iload_n 23 rfl 2 dX4_readMembers_22 rfl rfl ?_
        refine V_if_gt 26 34 rfl dX4_readMembers_23 (by decide) (fun c => ?_) (fun c => ?_)
        · have h := zpos c h
          refine V_iconst 35 rfl (v := 1) dX4_readMembers_34 (by decide) ?_
          refine V_goto 39 dX4_readMembers_35 (by decide) ?_
          exact V_zret dX4_readMembers_39 rfl rfl (kr ((1, s.2)) (zinj h))
        · have h := zneg c h
          refine V_aload_n 27 rfl 0 dX4_readMembers_26 rfl rfl ?_
          refine V_iconst 28 rfl (v := 1) dX4_readMembers_27 (by decide) ?_
          obtain ⟨x11, h1, h⟩ := zbd h
          refine V_cV 31 rfl 0 [zI 1] [] dX4_readMembers_28 cv_X4_56 (ctX4_refuse (Nat.le_refl 0) h1) (Nat.le_trans (by decide) hd) rfl rfl (Nat.le_of_ble_eq_true rfl) zoki rfl ?_
          refine V_if_eq 34 38 rfl dX4_readMembers_31 (by decide) (fun c => ?_) (fun c => ?_)
          · have h := zpos c h
            refine V_iconst 39 rfl (v := 0) dX4_readMembers_38 (by decide) ?_
            exact V_zret dX4_readMembers_39 rfl rfl (kr ((0, x11.2)) (zinj h))
          · have h := zneg c h
            refine V_iconst 35 rfl (v := 1) dX4_readMembers_34 (by decide) ?_
            refine V_goto 39 dX4_readMembers_35 (by decide) ?_
            exact V_zret dX4_readMembers_39 rfl rfl (kr ((1, x11.2)) (zinj h))
theorem wX4_readMembers {E : zE} {d : Nat} (hd : 9 ≤ d) {Q : Option zV → zM → Prop} {v1 : Nat} {mm : zM} {o : (Int32 × zM)} (h : fX4_readMembers v1 mm = some o) (hQ : ∀ r, o = r → Q (some (zI r.1)) r.2) : V E RX4 cX4_readMembers 5 (some .boolean) d Q 0 [some (zK 4 0), some (zK 7 v1), none, none, none] [] mm := by
  unfold fX4_readMembers at h
  refine V_aload_n 1 rfl 0 dX4_readMembers_0 rfl rfl ?_
  obtain ⟨x1, h1, h⟩ := zbd h
  refine V_cV 4 rfl 0 [] [] dX4_readMembers_1 cv_X4_40 (ctX4_pass (Nat.le_refl 0) h1) (Nat.le_trans (by decide) hd) rfl rfl (Nat.le_of_ble_eq_true rfl) zokn rfl ?_
  refine V_iconst 5 rfl (v := 0) dX4_readMembers_4 (by decide) ?_
  refine V_istore_n 6 rfl 2 (L' := [some (zK 4 0), some (zK 7 v1), some (zI 0), none, none]) dX4_readMembers_5 rfl (by decide) rfl ?_
  obtain ⟨o14, h1, h⟩ := zbd h
  refine wX4_readMembers_L6 hd h1 (fun y12 e => ?_) (fun r e => by have h := zcr_ e h; exact hQ r (zinj h))
  have h := zcl_ e h
  refine V_iconst 138 rfl (v := 1) dX4_readMembers_137 (by decide) ?_
  exact V_zret dX4_readMembers_138 rfl rfl (hQ ((1, y12)) (zinj h))
theorem ctX4_readMembers {E : zE} {d : Nat} (hd : 9 ≤ d) {v1 : Nat} {mm : zM} {o : (Int32 × zM)} (h : fX4_readMembers v1 mm = some o) : zOC E yX4_readMembers cX4_readMembers 5 (some .boolean) d [zK 4 0, zK 7 v1] mm (some (zI o.1)) o.2 :=
  zCT_of (by decide) (Nat.le_of_ble_eq_true rfl) (zk_k (zk_k zk_0)) rfl (wX4_readMembers hd h (fun r e => ⟨by rw [e], by rw [e]⟩))
def fX8_isUnit (v0 : Nat) (v1 : Int32) (mm : zM) : Option Int32 :=
  if v1 < 0 then (some 0) else (if (gi mm 8 v0 1) ≤ v1 then (some 0) else (some 1))
theorem wX8_isUnit {E : zE} {d : Nat} (hd : 0 ≤ d) {Q : Option zV → zM → Prop} {v0 : Nat} {v1 : Int32} {mm : zM} {o : Int32} (h : fX8_isUnit v0 v1 mm = some o) (hQ : ∀ r, o = r → Q (some (zI r)) mm) : V E RX8 cX8_isUnit 2 (some .boolean) d Q 0 [some (zK 8 v0), some (zI v1)] [] mm := by
  unfold fX8_isUnit at h
  refine V_iload_n 1 rfl 1 dX8_isUnit_0 rfl rfl ?_
  refine V_if_lt 4 16 rfl dX8_isUnit_1 (by decide) (fun c => ?_) (fun c => ?_)
  · have h := zpos c h
    refine V_iconst 17 rfl (v := 0) dX8_isUnit_16 (by decide) ?_
    exact V_zret dX8_isUnit_17 rfl rfl (hQ 0 (zinj h))
  · have h := zneg c h
    refine V_iload_n 5 rfl 1 dX8_isUnit_4 rfl rfl ?_
    refine V_aload_n 6 rfl 0 dX8_isUnit_5 rfl rfl ?_
    refine V_geti 9 rfl dX8_isUnit_6 fl_X8_18 rfl ?_
    refine V_icmp_ge 12 16 rfl dX8_isUnit_9 (by decide) (fun c => ?_) (fun c => ?_)
    · have h := zpos c h
      refine V_iconst 17 rfl (v := 0) dX8_isUnit_16 (by decide) ?_
      exact V_zret dX8_isUnit_17 rfl rfl (hQ 0 (zinj h))
    · have h := zneg c h
      refine V_iconst 13 rfl (v := 1) dX8_isUnit_12 (by decide) ?_
      refine V_goto 17 dX8_isUnit_13 (by decide) ?_
      exact V_zret dX8_isUnit_17 rfl rfl (hQ 1 (zinj h))
theorem ctX8_isUnit {E : zE} {d : Nat} (hd : 0 ≤ d) {v0 : Nat} {v1 : Int32} {mm : zM} {o : Int32} (h : fX8_isUnit v0 v1 mm = some o) : zOC E yX8_isUnit cX8_isUnit 2 (some .boolean) d [zK 8 v0, zI v1] mm (some (zI o)) mm :=
  zCT_of (by decide) (Nat.le_of_ble_eq_true rfl) (zk_k (zk_i zk_0)) rfl (wX8_isUnit hd h (fun r e => ⟨by rw [e], rfl⟩))
def fX8_isType (v0 : Nat) (v1 : Int32) (mm : zM) : Option Int32 :=
  (fX8_isUnit v0 v1 mm).bind (fun x1 => if x1 = 0 then (some 0) else (zob (zin v1 12) (if (gi mm 7 (12 * v0 + zn v1) 0) = 0 then (some 1) else (some 0))))
theorem wX8_isType {E : zE} {d : Nat} (hd : 1 ≤ d) {Q : Option zV → zM → Prop} {v0 : Nat} {v1 : Int32} {mm : zM} {o : Int32} (h : fX8_isType v0 v1 mm = some o) (hQ : ∀ r, o = r → Q (some (zI r)) mm) : V E RX8 cX8_isType 2 (some .boolean) d Q 0 [some (zK 8 v0), some (zI v1)] [] mm := by
  unfold fX8_isType at h
  refine V_aload_n 1 rfl 0 dX8_isType_0 rfl rfl ?_
  refine V_iload_n 2 rfl 1 dX8_isType_1 rfl rfl ?_
  obtain ⟨x1, h1, h⟩ := zbd h
  refine V_cV 5 rfl 0 [zI v1] [] dX8_isType_2 cv_X8_22 (ctX8_isUnit (Nat.le_refl 0) h1) (Nat.le_trans (by decide) hd) rfl rfl (Nat.le_of_ble_eq_true rfl) zoki rfl ?_
  refine V_if_eq 8 24 rfl dX8_isType_5 (by decide) (fun c => ?_) (fun c => ?_)
  · have h := zpos c h
    refine V_iconst 25 rfl (v := 0) dX8_isType_24 (by decide) ?_
    exact V_zret dX8_isType_25 rfl rfl (hQ 0 (zinj h))
  · have h := zneg c h
    refine V_aload_n 9 rfl 0 dX8_isType_8 rfl rfl ?_
    refine V_getr 12 rfl 35 v0 dX8_isType_9 fl_X8_11 rfl rfl rfl ?_
    refine V_iload_n 13 rfl 1 dX8_isType_12 rfl rfl ?_
    obtain ⟨hi, h⟩ := zobd h
    refine V_aald 14 rfl 7 (12 * v0 + zn v1) dX8_isType_13 rfl (by decide) (by decide) rfl rfl hi ?_
    refine V_geti 17 rfl dX8_isType_14 fl_X8_26 rfl ?_
    refine V_if_ne 20 24 rfl dX8_isType_17 (by decide) (fun c => ?_) (fun c => ?_)
    · have h := zneg c h
      refine V_iconst 25 rfl (v := 0) dX8_isType_24 (by decide) ?_
      exact V_zret dX8_isType_25 rfl rfl (hQ 0 (zinj h))
    · have h := zpos c h
      refine V_iconst 21 rfl (v := 1) dX8_isType_20 (by decide) ?_
      refine V_goto 25 dX8_isType_21 (by decide) ?_
      exact V_zret dX8_isType_25 rfl rfl (hQ 1 (zinj h))
theorem ctX8_isType {E : zE} {d : Nat} (hd : 1 ≤ d) {v0 : Nat} {v1 : Int32} {mm : zM} {o : Int32} (h : fX8_isType v0 v1 mm = some o) : zOC E yX8_isType cX8_isType 2 (some .boolean) d [zK 8 v0, zI v1] mm (some (zI o)) mm :=
  zCT_of (by decide) (Nat.le_of_ble_eq_true rfl) (zk_k (zk_i zk_0)) rfl (wX8_isType hd h (fun r e => ⟨by rw [e], rfl⟩))
def fX5_placeOf_L2 (v0 : Nat) (v1 : Int32) (mm : zM) (s : Int32) : Option (Int32 ⊕ (Unit ⊕ Int32)) :=
  if (gi mm 5 v0 1) ≤ s then (some (.inr (.inl ()))) else (zob (zin s 4) (if (gi mm 30 v0 (zn s)) = v1 then (some (.inr (.inr s))) else (some (.inl (s + 1)))))
def fX5_placeOf (v0 : Nat) (v1 : Int32) (mm : zM) : Option Int32 :=
  (zloop (fX5_placeOf_L2 v0 v1 mm) zF 0).bind (fun o3 => zcase o3 (fun y1 => some ((-1))) (fun r2 => some r2))
theorem wX5_placeOf_L2 {E : zE} {d : Nat} (hd : 0 ≤ d) {Q : Option zV → zM → Prop} {v0 : Nat} {v1 : Int32} {mm : zM} {n : Nat} {s : Int32} {o : Unit ⊕ Int32} (h : zloop (fX5_placeOf_L2 v0 v1 mm) n s = some o) (he : ∀ y : Unit, o = .inl y → V E RX5 cX5_placeOf 3 (some .int) d Q 28 [none, none, none] [] mm) (hr : ∀ r : Int32, o = .inr r → Q (some (zI r)) mm) : V E RX5 cX5_placeOf 3 (some .int) d Q 2 [some (zK 5 v0), some (zI v1), some (zI s)] [] mm := by
  induction n generalizing s with
  | zero => exact (zloop_0 h).elim
  | succ n ih =>
    obtain ⟨o1, h1, hc1, he1⟩ := zloop_s h
    have kc : ∀ s' : Int32, o1 = .inl s' → V E RX5 cX5_placeOf 3 (some .int) d Q 2 [some (zK 5 v0), some (zI v1), some (zI s')] [] mm := fun s' e => ih (hc1 s' e)
    have ke : ∀ y : Unit, o1 = .inr (.inl y) → V E RX5 cX5_placeOf 3 (some .int) d Q 28 [none, none, none] [] mm := fun y e => he y (he1 _ e)
    have kr : ∀ r : Int32, o1 = .inr (.inr r) → Q (some (zI r)) mm := fun r e => hr r (he1 _ e)
    clear h hc1 he1 ih
    have h := h1
    clear h1
    unfold fX5_placeOf_L2 at h
    refine V_iload_n 3 rfl 2 dX5_placeOf_2 rfl rfl ?_
    refine V_aload_n 4 rfl 0 dX5_placeOf_3 rfl rfl ?_
    refine V_geti 7 rfl dX5_placeOf_4 fl_X5_15 rfl ?_
    refine V_icmp_ge 10 28 rfl dX5_placeOf_7 (by decide) (fun c => ?_) (fun c => ?_)
    · have h := zpos c h
      exact V_w (zsub_n (zsub_n (zsub_n zsub_0))) (ke () (zinj h))
    · have h := zneg c h
      refine V_aload_n 11 rfl 0 dX5_placeOf_10 rfl rfl ?_
      refine V_getr 14 rfl 30 v0 dX5_placeOf_11 fl_X5_9 rfl rfl rfl ?_
      refine V_iload_n 15 rfl 2 dX5_placeOf_14 rfl rfl ?_
      obtain ⟨hi, h⟩ := zobd h
      refine V_iald 16 rfl dX5_placeOf_15 rfl hi ?_
      refine V_iload_n 17 rfl 1 dX5_placeOf_16 rfl rfl ?_
      refine V_icmp_ne 20 22 rfl dX5_placeOf_17 (by decide) (fun c => ?_) (fun c => ?_)
      · have h := zneg c h
        refine V_iinc 25 rfl (s + 1) (L' := [some (zK 5 v0), some (zI v1), some (zI (s + 1))]) dX5_placeOf_22 rfl rfl (by decide) rfl ?_
        refine V_goto 2 dX5_placeOf_25 (by decide) ?_
        exact kc (s + 1) (zinj h)
      · have h := zpos c h
        refine V_iload_n 21 rfl 2 dX5_placeOf_20 rfl rfl ?_
        exact V_iret dX5_placeOf_21 rfl (kr s (zinj h))
theorem wX5_placeOf {E : zE} {d : Nat} (hd : 0 ≤ d) {Q : Option zV → zM → Prop} {v0 : Nat} {v1 : Int32} {mm : zM} {o : Int32} (h : fX5_placeOf v0 v1 mm = some o) (hQ : ∀ r, o = r → Q (some (zI r)) mm) : V E RX5 cX5_placeOf 3 (some .int) d Q 0 [some (zK 5 v0), some (zI v1), none] [] mm := by
  unfold fX5_placeOf at h
  refine V_iconst 1 rfl (v := 0) dX5_placeOf_0 (by decide) ?_
  refine V_istore_n 2 rfl 2 (L' := [some (zK 5 v0), some (zI v1), some (zI 0)]) dX5_placeOf_1 rfl (by decide) rfl ?_
  obtain ⟨o3, h1, h⟩ := zbd h
  refine wX5_placeOf_L2 hd h1 (fun y1 e => ?_) (fun r e => by have h := zcr_ e h; exact hQ r (zinj h))
  have h := zcl_ e h
  refine V_iconst 29 rfl (v := (-1)) dX5_placeOf_28 (by decide) ?_
  exact V_iret dX5_placeOf_29 rfl (hQ ((-1)) (zinj h))
theorem ctX5_placeOf {E : zE} {d : Nat} (hd : 0 ≤ d) {v0 : Nat} {v1 : Int32} {mm : zM} {o : Int32} (h : fX5_placeOf v0 v1 mm = some o) : zOC E yX5_placeOf cX5_placeOf 3 (some .int) d [zK 5 v0, zI v1] mm (some (zI o)) mm :=
  zCT_of (by decide) (Nat.le_of_ble_eq_true rfl) (zk_k (zk_i zk_0)) rfl (wX5_placeOf hd h (fun r e => ⟨by rw [e], rfl⟩))
def fX8_isTrait (v0 : Nat) (v1 : Int32) (mm : zM) : Option Int32 :=
  (fX8_isUnit v0 v1 mm).bind (fun x1 => if x1 = 0 then (some 0) else (zob (zin v1 12) (if (gi mm 7 (12 * v0 + zn v1) 0) = 0 then (some 0) else (some 1))))
theorem wX8_isTrait {E : zE} {d : Nat} (hd : 1 ≤ d) {Q : Option zV → zM → Prop} {v0 : Nat} {v1 : Int32} {mm : zM} {o : Int32} (h : fX8_isTrait v0 v1 mm = some o) (hQ : ∀ r, o = r → Q (some (zI r)) mm) : V E RX8 cX8_isTrait 2 (some .boolean) d Q 0 [some (zK 8 v0), some (zI v1)] [] mm := by
  unfold fX8_isTrait at h
  refine V_aload_n 1 rfl 0 dX8_isTrait_0 rfl rfl ?_
  refine V_iload_n 2 rfl 1 dX8_isTrait_1 rfl rfl ?_
  obtain ⟨x1, h1, h⟩ := zbd h
  refine V_cV 5 rfl 0 [zI v1] [] dX8_isTrait_2 cv_X8_22 (ctX8_isUnit (Nat.le_refl 0) h1) (Nat.le_trans (by decide) hd) rfl rfl (Nat.le_of_ble_eq_true rfl) zoki rfl ?_
  refine V_if_eq 8 24 rfl dX8_isTrait_5 (by decide) (fun c => ?_) (fun c => ?_)
  · have h := zpos c h
    refine V_iconst 25 rfl (v := 0) dX8_isTrait_24 (by decide) ?_
    exact V_zret dX8_isTrait_25 rfl rfl (hQ 0 (zinj h))
  · have h := zneg c h
    refine V_aload_n 9 rfl 0 dX8_isTrait_8 rfl rfl ?_
    refine V_getr 12 rfl 35 v0 dX8_isTrait_9 fl_X8_11 rfl rfl rfl ?_
    refine V_iload_n 13 rfl 1 dX8_isTrait_12 rfl rfl ?_
    obtain ⟨hi, h⟩ := zobd h
    refine V_aald 14 rfl 7 (12 * v0 + zn v1) dX8_isTrait_13 rfl (by decide) (by decide) rfl rfl hi ?_
    refine V_geti 17 rfl dX8_isTrait_14 fl_X8_26 rfl ?_
    refine V_if_eq 20 24 rfl dX8_isTrait_17 (by decide) (fun c => ?_) (fun c => ?_)
    · have h := zpos c h
      refine V_iconst 25 rfl (v := 0) dX8_isTrait_24 (by decide) ?_
      exact V_zret dX8_isTrait_25 rfl rfl (hQ 0 (zinj h))
    · have h := zneg c h
      refine V_iconst 21 rfl (v := 1) dX8_isTrait_20 (by decide) ?_
      refine V_goto 25 dX8_isTrait_21 (by decide) ?_
      exact V_zret dX8_isTrait_25 rfl rfl (hQ 1 (zinj h))
theorem ctX8_isTrait {E : zE} {d : Nat} (hd : 1 ≤ d) {v0 : Nat} {v1 : Int32} {mm : zM} {o : Int32} (h : fX8_isTrait v0 v1 mm = some o) : zOC E yX8_isTrait cX8_isTrait 2 (some .boolean) d [zK 8 v0, zI v1] mm (some (zI o)) mm :=
  zCT_of (by decide) (Nat.le_of_ble_eq_true rfl) (zk_k (zk_i zk_0)) rfl (wX8_isTrait hd h (fun r e => ⟨by rw [e], rfl⟩))
def fX4_readOfRow_J51 (mm : zM) : Option (Int32 × zM) :=
  (fX4_refuse 2 mm).bind (fun x6 => some (((-1), x6.2)))
def fX4_readOfRow_J35 (v1 : Nat) (v3 : Int32) (s0 : Int32) (mm : zM) : Option (Int32 × zM) :=
  if s0 = 0 then (fX4_readOfRow_J51  mm) else ((fX5_placeOf v1 v3 mm).bind (fun x7 => if x7 = (-1) then (if (gi mm 5 v1 1) < 4 then ((fX4_pass mm).bind (fun x8 => some ((v3, x8)))) else ((fX4_refuse 3 mm).bind (fun x9 => some (((-1), x9.2))))) else (fX4_readOfRow_J51  mm)))
def fX4_readOfRow (v1 : Nat) (v2 : Int32) (mm : zM) : Option (Int32 × zM) :=
  (gr mm 4 7).bind (fun j1 => (fX4_nameHere mm).bind (fun x2 => (fX8_indexOf j1 x2 mm).bind (fun x3 => if v2 = 0 then ((gr mm 4 7).bind (fun j4 => (fX8_isType j4 x3 mm).bind (fun x5 => fX4_readOfRow_J35 v1 x3 x5 mm))) else ((gr mm 4 7).bind (fun j10 => (fX8_isTrait j10 x3 mm).bind (fun x11 => fX4_readOfRow_J35 v1 x3 x11 mm))))))
theorem wX4_readOfRow_J51 {E : zE} {d : Nat} (hd : 2 ≤ d) {Q : Option zV → zM → Prop} {mm : zM} {o : (Int32 × zM)} (h : fX4_readOfRow_J51  mm = some o) (hQ : ∀ r, o = r → Q (some (zI r.1)) r.2) : V E RX4 cX4_readOfRow 5 (some .int) d Q 51 [some (zK 4 0), none, none, none, none] [] mm := by
  unfold fX4_readOfRow_J51 at h
  refine V_aload_n 52 rfl 0 dX4_readOfRow_51 rfl rfl ?_
  refine V_iconst 53 rfl (v := 2) dX4_readOfRow_52 (by decide) ?_
  obtain ⟨x6, h1, h⟩ := zbd h
  refine V_cV 56 rfl 0 [zI 2] [] dX4_readOfRow_53 cv_X4_56 (ctX4_refuse (Nat.le_refl 0) h1) (Nat.le_trans (by decide) hd) rfl rfl (Nat.le_of_ble_eq_true rfl) zoki rfl ?_
  refine V_pop 57 rfl dX4_readOfRow_56 rfl ?_
  refine V_iconst 58 rfl (v := (-1)) dX4_readOfRow_57 (by decide) ?_
  exact V_iret dX4_readOfRow_58 rfl (hQ (((-1), x6.2)) (zinj h))
theorem wX4_readOfRow_J35 {E : zE} {d : Nat} (hd : 2 ≤ d) {Q : Option zV → zM → Prop} {v1 : Nat} {v3 : Int32} {s0 : Int32} {mm : zM} {o : (Int32 × zM)} (h : fX4_readOfRow_J35 v1 v3 s0 mm = some o) (hQ : ∀ r, o = r → Q (some (zI r.1)) r.2) : V E RX4 cX4_readOfRow 5 (some .int) d Q 35 [some (zK 4 0), some (zK 5 v1), none, some (zI v3), none] [zI s0] mm := by
  unfold fX4_readOfRow_J35 at h
  refine V_istore 37 rfl (L' := [some (zK 4 0), some (zK 5 v1), none, some (zI v3), some (zI s0)]) dX4_readOfRow_35 (by decide) rfl ?_
  refine V_iload 39 rfl dX4_readOfRow_37 rfl ?_
  refine V_if_eq 42 51 rfl dX4_readOfRow_39 (by decide) (fun c => ?_) (fun c => ?_)
  · have h := zpos c h
    exact V_w (zsub_s (zsub_n (zsub_s (zsub_n (zsub_n zsub_0))))) (wX4_readOfRow_J51 hd h hQ)
  · have h := zneg c h
    refine V_aload_n 43 rfl 1 dX4_readOfRow_42 rfl rfl ?_
    refine V_iload_n 44 rfl 3 dX4_readOfRow_43 rfl rfl ?_
    obtain ⟨x7, h1, h⟩ := zbd h
    refine V_cV 47 rfl 0 [zI v3] [] dX4_readOfRow_44 cv_X4_130 (ctX5_placeOf (Nat.le_refl 0) h1) (Nat.le_trans (by decide) hd) rfl rfl (Nat.le_of_ble_eq_true rfl) zoki rfl ?_
    refine V_iconst 48 rfl (v := (-1)) dX4_readOfRow_47 (by decide) ?_
    refine V_icmp_eq 51 59 rfl dX4_readOfRow_48 (by decide) (fun c => ?_) (fun c => ?_)
    · have h := zpos c h
      refine V_aload_n 60 rfl 1 dX4_readOfRow_59 rfl rfl ?_
      refine V_geti 63 rfl dX4_readOfRow_60 fl_X4_133 rfl ?_
      refine V_iconst 64 rfl (v := 4) dX4_readOfRow_63 (by decide) ?_
      refine V_icmp_lt 67 75 rfl dX4_readOfRow_64 (by decide) (fun c => ?_) (fun c => ?_)
      · have h := zpos c h
        refine V_aload_n 76 rfl 0 dX4_readOfRow_75 rfl rfl ?_
        obtain ⟨x8, h1, h⟩ := zbd h
        refine V_cV 79 rfl 0 [] [] dX4_readOfRow_76 cv_X4_40 (ctX4_pass (Nat.le_refl 0) h1) (Nat.le_trans (by decide) hd) rfl rfl (Nat.le_of_ble_eq_true rfl) zokn rfl ?_
        refine V_iload_n 80 rfl 3 dX4_readOfRow_79 rfl rfl ?_
        exact V_iret dX4_readOfRow_80 rfl (hQ ((v3, x8)) (zinj h))
      · have h := zneg c h
        refine V_aload_n 68 rfl 0 dX4_readOfRow_67 rfl rfl ?_
        refine V_iconst 69 rfl (v := 3) dX4_readOfRow_68 (by decide) ?_
        obtain ⟨x9, h1, h⟩ := zbd h
        refine V_cV 72 rfl 0 [zI 3] [] dX4_readOfRow_69 cv_X4_56 (ctX4_refuse (Nat.le_refl 0) h1) (Nat.le_trans (by decide) hd) rfl rfl (Nat.le_of_ble_eq_true rfl) zoki rfl ?_
        refine V_pop 73 rfl dX4_readOfRow_72 rfl ?_
        refine V_iconst 74 rfl (v := (-1)) dX4_readOfRow_73 (by decide) ?_
        exact V_iret dX4_readOfRow_74 rfl (hQ (((-1), x9.2)) (zinj h))
    · have h := zneg c h
      exact V_w (zsub_s (zsub_n (zsub_s (zsub_n (zsub_n zsub_0))))) (wX4_readOfRow_J51 hd h hQ)
theorem wX4_readOfRow {E : zE} {d : Nat} (hd : 2 ≤ d) {Q : Option zV → zM → Prop} {v1 : Nat} {v2 : Int32} {mm : zM} {o : (Int32 × zM)} (h : fX4_readOfRow v1 v2 mm = some o) (hQ : ∀ r, o = r → Q (some (zI r.1)) r.2) : V E RX4 cX4_readOfRow 5 (some .int) d Q 0 [some (zK 4 0), some (zK 5 v1), some (zI v2), none, none] [] mm := by
  unfold fX4_readOfRow at h
  refine V_aload_n 1 rfl 0 dX4_readOfRow_0 rfl rfl ?_
  obtain ⟨j1, hj, h⟩ := zbd h
  refine V_getm 4 rfl 8 dX4_readOfRow_1 fl_X4_25 rfl rfl hj ?_
  refine V_aload_n 5 rfl 0 dX4_readOfRow_4 rfl rfl ?_
  obtain ⟨x2, h1, h⟩ := zbd h
  refine V_cV 8 rfl 0 [] [zK 8 j1] dX4_readOfRow_5 cv_X4_68 (ctX4_nameHere (Nat.le_refl 0) h1) (Nat.le_trans (by decide) hd) rfl rfl (Nat.le_of_ble_eq_true rfl) zoki rfl ?_
  obtain ⟨x3, h1, h⟩ := zbd h
  refine V_cV 11 rfl 0 [zI x2] [] dX4_readOfRow_8 cv_X4_72 (ctX8_indexOf (Nat.le_refl 0) h1) (Nat.le_trans (by decide) hd) rfl rfl (Nat.le_of_ble_eq_true rfl) zoki rfl ?_
  refine V_istore_n 12 rfl 3 (L' := [some (zK 4 0), some (zK 5 v1), some (zI v2), some (zI x3), none]) dX4_readOfRow_11 rfl (by decide) rfl ?_
  refine V_iload_n 13 rfl 2 dX4_readOfRow_12 rfl rfl ?_
  refine V_if_eq 16 27 rfl dX4_readOfRow_13 (by decide) (fun c => ?_) (fun c => ?_)
  · have h := zpos c h
    refine V_aload_n 28 rfl 0 dX4_readOfRow_27 rfl rfl ?_
    obtain ⟨j4, hj, h⟩ := zbd h
    refine V_getm 31 rfl 8 dX4_readOfRow_28 fl_X4_25 rfl rfl hj ?_
    refine V_iload_n 32 rfl 3 dX4_readOfRow_31 rfl rfl ?_
    obtain ⟨x5, h1, h⟩ := zbd h
    refine V_cV 35 rfl 1 [zI x3] [] dX4_readOfRow_32 cv_X4_127 (ctX8_isType (Nat.le_refl 1) h1) (Nat.le_trans (by decide) hd) rfl rfl (Nat.le_of_ble_eq_true rfl) zoki rfl ?_
    exact V_w (zsub_s (zsub_s (zsub_n (zsub_s (zsub_s zsub_0))))) (wX4_readOfRow_J35 hd h hQ)
  · have h := zneg c h
    refine V_aload_n 17 rfl 0 dX4_readOfRow_16 rfl rfl ?_
    obtain ⟨j10, hj, h⟩ := zbd h
    refine V_getm 20 rfl 8 dX4_readOfRow_17 fl_X4_25 rfl rfl hj ?_
    refine V_iload_n 21 rfl 3 dX4_readOfRow_20 rfl rfl ?_
    obtain ⟨x11, h1, h⟩ := zbd h
    refine V_cV 24 rfl 1 [zI x3] [] dX4_readOfRow_21 cv_X4_124 (ctX8_isTrait (Nat.le_refl 1) h1) (Nat.le_trans (by decide) hd) rfl rfl (Nat.le_of_ble_eq_true rfl) zoki rfl ?_
    refine V_goto 35 dX4_readOfRow_24 (by decide) ?_
    exact V_w (zsub_s (zsub_s (zsub_n (zsub_s (zsub_s zsub_0))))) (wX4_readOfRow_J35 hd h hQ)
theorem ctX4_readOfRow {E : zE} {d : Nat} (hd : 2 ≤ d) {v1 : Nat} {v2 : Int32} {mm : zM} {o : (Int32 × zM)} (h : fX4_readOfRow v1 v2 mm = some o) : zOC E yX4_readOfRow cX4_readOfRow 5 (some .int) d [zK 4 0, zK 5 v1, zI v2] mm (some (zI o.1)) o.2 :=
  zCT_of (by decide) (Nat.le_of_ble_eq_true rfl) (zk_k (zk_k (zk_i zk_0))) rfl (wX4_readOfRow hd h (fun r e => ⟨by rw [e], by rw [e]⟩))
