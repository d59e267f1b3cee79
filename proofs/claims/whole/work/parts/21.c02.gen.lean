def fX5_removeAt_L17 (v0 : Nat) (s : (Int32 × zM)) : Option ((Int32 × zM) ⊕ (zM ⊕ Empty)) :=
  if (gi s.2 5 v0 1) ≤ s.1 then (some (.inr (.inl s.2))) else (zob (zin s.1 4) (zob (zin ((s.1 - 1)) 4) (some (.inl ((s.1 + 1), (wi s.2 30 v0 (zn ((s.1 - 1))) ((gi s.2 30 v0 (zn s.1)))))))))
def fX5_removeAt (v0 : Nat) (v1 : Int32) (mm : zM) : Option zM :=
  if v1 < 0 then (some mm) else (if v1 < (gi mm 5 v0 1) then ((zloop (fX5_removeAt_L17 v0) zF ((v1 + 1), mm)).bind (fun o3 => zcase o3 (fun y1 => some ((wi y1 5 v0 1 ((((gi y1 5 v0 1)) - 1))))) (fun r2 => r2.elim))) else (some mm))
theorem wX5_removeAt_L17 {E : zE} {d : Nat} (hd : 0 ≤ d) {Q : Option zV → zM → Prop} {v0 : Nat} {n : Nat} {s : (Int32 × zM)} {o : zM ⊕ Empty} (h : zloop (fX5_removeAt_L17 v0) n s = some o) (he : ∀ y : zM, o = .inl y → V E RX5 cX5_removeAt 3 none d Q 45 [some (zK 5 v0), none, none] [] y) : V E RX5 cX5_removeAt 3 none d Q 17 [some (zK 5 v0), none, some (zI s.1)] [] s.2 := by
  induction n generalizing s with
  | zero => exact (zloop_0 h).elim
  | succ n ih =>
    obtain ⟨o1, h1, hc1, he1⟩ := zloop_s h
    have kc : ∀ s' : (Int32 × zM), o1 = .inl s' → V E RX5 cX5_removeAt 3 none d Q 17 [some (zK 5 v0), none, some (zI s'.1)] [] s'.2 := fun s' e => ih (hc1 s' e)
    have ke : ∀ y : zM, o1 = .inr (.inl y) → V E RX5 cX5_removeAt 3 none d Q 45 [some (zK 5 v0), none, none] [] y := fun y e => he y (he1 _ e)
    clear h hc1 he1 ih
    have h := h1
    clear h1
    unfold fX5_removeAt_L17 at h
    refine V_iload_n 18 rfl 2 dX5_removeAt_17 rfl rfl ?_
    refine V_aload_n 19 rfl 0 dX5_removeAt_18 rfl rfl ?_
    refine V_geti 22 rfl dX5_removeAt_19 fl_X5_15 rfl ?_
    refine V_icmp_ge 25 45 rfl dX5_removeAt_22 (by decide) (fun c => ?_) (fun c => ?_)
    · have h := zpos c h
      exact V_w (zsub_s (zsub_s (zsub_n zsub_0))) (ke s.2 (zinj h))
    · have h := zneg c h
      refine V_aload_n 26 rfl 0 dX5_removeAt_25 rfl rfl ?_
      refine V_getr 29 rfl 30 v0 dX5_removeAt_26 fl_X5_9 rfl rfl rfl ?_
      refine V_iload_n 30 rfl 2 dX5_removeAt_29 rfl rfl ?_
      refine V_iconst 31 rfl (v := 1) dX5_removeAt_30 (by decide) ?_
      refine V_isub 32 rfl dX5_removeAt_31 ?_
      refine V_aload_n 33 rfl 0 dX5_removeAt_32 rfl rfl ?_
      refine V_getr 36 rfl 30 v0 dX5_removeAt_33 fl_X5_9 rfl rfl rfl ?_
      refine V_iload_n 37 rfl 2 dX5_removeAt_36 rfl rfl ?_
      obtain ⟨hi, h⟩ := zobd h
      refine V_iald 38 rfl dX5_removeAt_37 rfl hi ?_
      obtain ⟨hi, h⟩ := zobd h
      refine V_iast 39 rfl dX5_removeAt_38 rfl hi ?_
      refine V_iinc 42 rfl (s.1 + 1) (L' := [some (zK 5 v0), none, some (zI (s.1 + 1))]) dX5_removeAt_39 rfl rfl (by decide) rfl ?_
      refine V_goto 17 dX5_removeAt_42 (by decide) ?_
      exact kc ((s.1 + 1), (wi s.2 30 v0 (zn ((s.1 - 1))) ((gi s.2 30 v0 (zn s.1))))) (zinj h)
theorem wX5_removeAt {E : zE} {d : Nat} (hd : 0 ≤ d) {Q : Option zV → zM → Prop} {v0 : Nat} {v1 : Int32} {mm : zM} {o : zM} (h : fX5_removeAt v0 v1 mm = some o) (hQ : ∀ r, o = r → Q none r) : V E RX5 cX5_removeAt 3 none d Q 0 [some (zK 5 v0), some (zI v1), none] [] mm := by
  unfold fX5_removeAt at h
  refine V_iload_n 1 rfl 1 dX5_removeAt_0 rfl rfl ?_
  refine V_if_lt 4 12 rfl dX5_removeAt_1 (by decide) (fun c => ?_) (fun c => ?_)
  · have h := zpos c h
    exact V_vret dX5_removeAt_12 rfl (hQ mm (zinj h))
  · have h := zneg c h
    refine V_iload_n 5 rfl 1 dX5_removeAt_4 rfl rfl ?_
    refine V_aload_n 6 rfl 0 dX5_removeAt_5 rfl rfl ?_
    refine V_geti 9 rfl dX5_removeAt_6 fl_X5_15 rfl ?_
    refine V_icmp_lt 12 13 rfl dX5_removeAt_9 (by decide) (fun c => ?_) (fun c => ?_)
    · have h := zpos c h
      refine V_iload_n 14 rfl 1 dX5_removeAt_13 rfl rfl ?_
      refine V_iconst 15 rfl (v := 1) dX5_removeAt_14 (by decide) ?_
      refine V_iadd 16 rfl dX5_removeAt_15 ?_
      refine V_istore_n 17 rfl 2 (L' := [some (zK 5 v0), some (zI v1), some (zI (v1 + 1))]) dX5_removeAt_16 rfl (by decide) rfl ?_
      obtain ⟨o3, h1, h⟩ := zbd h
      refine V_w (zsub_s (zsub_n (zsub_s zsub_0))) (wX5_removeAt_L17 hd h1 (fun y1 e => ?_))
      have h := zcl_ e h
      refine V_aload_n 46 rfl 0 dX5_removeAt_45 rfl rfl ?_
      refine V_dup 47 rfl dX5_removeAt_46 rfl ?_
      refine V_geti 50 rfl dX5_removeAt_47 fl_X5_15 rfl ?_
      refine V_iconst 51 rfl (v := 1) dX5_removeAt_50 (by decide) ?_
      refine V_isub 52 rfl dX5_removeAt_51 ?_
      refine V_puti 55 rfl dX5_removeAt_52 fw_X5_15 rfl rfl rfl ?_
      exact V_vret dX5_removeAt_55 rfl (hQ ((wi y1 5 v0 1 ((((gi y1 5 v0 1)) - 1)))) (zinj h))
    · have h := zneg c h
      exact V_vret dX5_removeAt_12 rfl (hQ mm (zinj h))
theorem ctX5_removeAt {E : zE} {d : Nat} (hd : 0 ≤ d) {v0 : Nat} {v1 : Int32} {mm : zM} {o : zM} (h : fX5_removeAt v0 v1 mm = some o) : zOC E yX5_removeAt cX5_removeAt 3 none d [zK 5 v0, zI v1] mm none o :=
  zCT_of (by decide) (Nat.le_of_ble_eq_true rfl) (zk_k (zk_i zk_0)) rfl (wX5_removeAt hd h (fun r e => ⟨rfl, by rw [e]⟩))
def fX9_leave (v1 : Int32) (v2 : Int32) (mm : zM) : Option (Int32 × zM) :=
  (gr mm 9 2).bind (fun j1 => (fX8_isType j1 v1 mm).bind (fun x2 => if x2 = 0 then (some (((-1), mm))) else ((gr mm 9 2).bind (fun j3 => zob (zin v1 12) ((fX5_placeOf ((2 * (12 * j3 + zn v1))) v2 mm).bind (fun x4 => if x4 = (-1) then (some (((-1), mm))) else ((fX9_beginAct v1 mm).bind (fun x5 => (fX5_removeAt ((2 * (12 * j3 + zn v1))) x4 x5).bind (fun x6 => some (((gi x6 5 (2 * (12 * j3 + zn v1)) 1), x6)))))))))))
theorem wX9_leave {E : zE} {d : Nat} (hd : 5 ≤ d) {Q : Option zV → zM → Prop} {v1 : Int32} {v2 : Int32} {mm : zM} {o : (Int32 × zM)} (h : fX9_leave v1 v2 mm = some o) (hQ : ∀ r, o = r → Q (some (zI r.1)) r.2) : V E RX9 cX9_leave 5 (some .int) d Q 0 [some (zK 9 0), some (zI v1), some (zI v2), none, none] [] mm := by
  unfold fX9_leave at h
  refine V_aload_n 1 rfl 0 dX9_leave_0 rfl rfl ?_
  obtain ⟨j1, hj, h⟩ := zbd h
  refine V_getm 4 rfl 8 dX9_leave_1 fl_X9_16 rfl rfl hj ?_
  refine V_iload_n 5 rfl 1 dX9_leave_4 rfl rfl ?_
  obtain ⟨x2, h1, h⟩ := zbd h
  refine V_cV 8 rfl 1 [zI v1] [] dX9_leave_5 cv_X9_94 (ctX8_isType (Nat.le_refl 1) h1) (Nat.le_trans (by decide) hd) rfl rfl (Nat.le_of_ble_eq_true rfl) zoki rfl ?_
  refine V_if_ne 11 13 rfl dX9_leave_8 (by decide) (fun c => ?_) (fun c => ?_)
  · have h := zneg c h
    refine V_aload_n 14 rfl 0 dX9_leave_13 rfl rfl ?_
    obtain ⟨j3, hj, h⟩ := zbd h
    refine V_getm 17 rfl 8 dX9_leave_14 fl_X9_16 rfl rfl hj ?_
    refine V_getr 20 rfl 35 j3 dX9_leave_17 fl_X9_98 rfl rfl rfl ?_
    refine V_iload_n 21 rfl 1 dX9_leave_20 rfl rfl ?_
    obtain ⟨hi, h⟩ := zobd h
    refine V_aald 22 rfl 7 (12 * j3 + zn v1) dX9_leave_21 rfl (by decide) (by decide) rfl rfl hi ?_
    refine V_getr 25 rfl 5 (2 * (12 * j3 + zn v1)) dX9_leave_22 fl_X9_102 rfl rfl rfl ?_
    refine V_astore_n 26 rfl 3 (L' := [some (zK 9 0), some (zI v1), some (zI v2), some (zK 5 (2 * (12 * j3 + zn v1))), none]) dX9_leave_25 rfl (by decide) rfl ?_
    refine V_aload_n 27 rfl 3 dX9_leave_26 rfl rfl ?_
    refine V_iload_n 28 rfl 2 dX9_leave_27 rfl rfl ?_
    obtain ⟨x4, h1, h⟩ := zbd h
    refine V_cV 31 rfl 0 [zI v2] [] dX9_leave_28 cv_X9_108 (ctX5_placeOf (Nat.le_refl 0) h1) (Nat.le_trans (by decide) hd) rfl rfl (Nat.le_of_ble_eq_true rfl) zoki rfl ?_
    refine V_istore 33 rfl (L' := [some (zK 9 0), some (zI v1), some (zI v2), some (zK 5 (2 * (12 * j3 + zn v1))), some (zI x4)]) dX9_leave_31 (by decide) rfl ?_
    refine V_iload 35 rfl dX9_leave_33 rfl ?_
    refine V_iconst 36 rfl (v := (-1)) dX9_leave_35 (by decide) ?_
    refine V_icmp_ne 39 41 rfl dX9_leave_36 (by decide) (fun c => ?_) (fun c => ?_)
    · have h := zneg c h
      refine V_aload_n 42 rfl 0 dX9_leave_41 rfl rfl ?_
      refine V_iload_n 43 rfl 1 dX9_leave_42 rfl rfl ?_
      obtain ⟨x5, h1, h⟩ := zbd h
      refine V_cV 46 rfl 4 [zI v1] [] dX9_leave_43 cv_X9_115 (ctX9_beginAct (Nat.le_refl 4) h1) (Nat.le_trans (by decide) hd) rfl rfl (Nat.le_of_ble_eq_true rfl) zokn rfl ?_
      refine V_aload_n 47 rfl 3 dX9_leave_46 rfl rfl ?_
      refine V_iload 49 rfl dX9_leave_47 rfl ?_
      obtain ⟨x6, h1, h⟩ := zbd h
      refine V_cV 52 rfl 0 [zI x4] [] dX9_leave_49 cv_X9_121 (ctX5_removeAt (Nat.le_refl 0) h1) (Nat.le_trans (by decide) hd) rfl rfl (Nat.le_of_ble_eq_true rfl) zokn rfl ?_
      refine V_aload_n 53 rfl 3 dX9_leave_52 rfl rfl ?_
      refine V_geti 56 rfl dX9_leave_53 fl_X9_114 rfl ?_
      exact V_iret dX9_leave_56 rfl (hQ (((gi x6 5 (2 * (12 * j3 + zn v1)) 1), x6)) (zinj h))
    · have h := zpos c h
      refine V_iconst 40 rfl (v := (-1)) dX9_leave_39 (by decide) ?_
      exact V_iret dX9_leave_40 rfl (hQ (((-1), mm)) (zinj h))
  · have h := zpos c h
    refine V_iconst 12 rfl (v := (-1)) dX9_leave_11 (by decide) ?_
    exact V_iret dX9_leave_12 rfl (hQ (((-1), mm)) (zinj h))
theorem ctX9_leave {E : zE} {d : Nat} (hd : 5 ≤ d) {v1 : Int32} {v2 : Int32} {mm : zM} {o : (Int32 × zM)} (h : fX9_leave v1 v2 mm = some o) : zOC E yX9_leave cX9_leave 5 (some .int) d [zK 9 0, zI v1, zI v2] mm (some (zI o.1)) o.2 :=
  zCT_of (by decide) (Nat.le_of_ble_eq_true rfl) (zk_k (zk_i (zk_i zk_0))) rfl (wX9_leave hd h (fun r e => ⟨by rw [e], by rw [e]⟩))
def fX5_reverse_L9 (v0 : Nat) (s : (Int32 × Int32 × zM)) : Option ((Int32 × Int32 × zM) ⊕ (zM ⊕ Empty)) :=
  if s.2.1 ≤ s.1 then (some (.inr (.inl s.2.2))) else (zob (zin s.1 4) (zob (zin s.2.1 4) (zob (zin s.1 4) (zob (zin s.2.1 4) (some (.inl ((s.1 + 1), (s.2.1 + (-1)), (wi ((wi s.2.2 30 v0 (zn s.1) ((gi s.2.2 30 v0 (zn s.2.1))))) 30 v0 (zn s.2.1) ((gi s.2.2 30 v0 (zn s.1)))))))))))
def fX5_reverse (v0 : Nat) (mm : zM) : Option zM :=
  (zloop (fX5_reverse_L9 v0) zF (0, (((gi mm 5 v0 1)) - 1), mm)).bind (fun o3 => zcase o3 (fun y1 => some y1) (fun r2 => r2.elim))
theorem wX5_reverse_L9 {E : zE} {d : Nat} (hd : 0 ≤ d) {Q : Option zV → zM → Prop} {v0 : Nat} {n : Nat} {s : (Int32 × Int32 × zM)} {o : zM ⊕ Empty} (h : zloop (fX5_reverse_L9 v0) n s = some o) (he : ∀ y : zM, o = .inl y → V E RX5 cX5_reverse 4 none d Q 49 [none, none, none, none] [] y) : V E RX5 cX5_reverse 4 none d Q 9 [some (zK 5 v0), some (zI s.1), some (zI s.2.1), none] [] s.2.2 := by
  induction n generalizing s with
  | zero => exact (zloop_0 h).elim
  | succ n ih =>
    obtain ⟨o1, h1, hc1, he1⟩ := zloop_s h
    have kc : ∀ s' : (Int32 × Int32 × zM), o1 = .inl s' → V E RX5 cX5_reverse 4 none d Q 9 [some (zK 5 v0), some (zI s'.1), some (zI s'.2.1), none] [] s'.2.2 := fun s' e => ih (hc1 s' e)
    have ke : ∀ y : zM, o1 = .inr (.inl y) → V E RX5 cX5_reverse 4 none d Q 49 [none, none, none, none] [] y := fun y e => he y (he1 _ e)
    clear h hc1 he1 ih
    have h := h1
    clear h1
    unfold fX5_reverse_L9 at h
    refine V_iload_n 10 rfl 1 dX5_reverse_9 rfl rfl ?_
    refine V_iload_n 11 rfl 2 dX5_reverse_10 rfl rfl ?_
    refine V_icmp_ge 14 49 rfl dX5_reverse_11 (by decide) (fun c => ?_) (fun c => ?_)
    · have h := zpos c h
      exact V_w (zsub_n (zsub_n (zsub_n (zsub_s zsub_0)))) (ke s.2.2 (zinj h))
    · have h := zneg c h
      refine V_aload_n 15 rfl 0 dX5_reverse_14 rfl rfl ?_
      refine V_getr 18 rfl 30 v0 dX5_reverse_15 fl_X5_9 rfl rfl rfl ?_
      refine V_iload_n 19 rfl 1 dX5_reverse_18 rfl rfl ?_
      obtain ⟨hi, h⟩ := zobd h
      refine V_iald 20 rfl dX5_reverse_19 rfl hi ?_
      refine V_istore_n 21 rfl 3 (L' := [some (zK 5 v0), some (zI s.1), some (zI s.2.1), some (zI (gi s.2.2 30 v0 (zn s.1)))]) dX5_reverse_20 rfl (by decide) rfl ?_
      refine V_aload_n 22 rfl 0 dX5_reverse_21 rfl rfl ?_
      refine V_getr 25 rfl 30 v0 dX5_reverse_22 fl_X5_9 rfl rfl rfl ?_
      refine V_iload_n 26 rfl 1 dX5_reverse_25 rfl rfl ?_
      refine V_aload_n 27 rfl 0 dX5_reverse_26 rfl rfl ?_
      refine V_getr 30 rfl 30 v0 dX5_reverse_27 fl_X5_9 rfl rfl rfl ?_
      refine V_iload_n 31 rfl 2 dX5_reverse_30 rfl rfl ?_
      obtain ⟨hi, h⟩ := zobd h
      refine V_iald 32 rfl dX5_reverse_31 rfl hi ?_
      obtain ⟨hi, h⟩ := zobd h
      refine V_iast 33 rfl dX5_reverse_32 rfl hi ?_
      refine V_aload_n 34 rfl 0 dX5_reverse_33 rfl rfl ?_
      refine V_getr 37 rfl 30 v0 dX5_reverse_34 fl_X5_9 rfl rfl rfl ?_
      refine V_iload_n 38 rfl 2 dX5_reverse_37 rfl rfl ?_
      refine V_iload_n 39 rfl 3 dX5_reverse_38 rfl rfl ?_
      obtain ⟨hi, h⟩ := zobd h
      refine V_iast 40 rfl dX5_reverse_39 rfl hi ?_
      refine V_iinc 43 rfl (s.1 + 1) (L' := [some (zK 5 v0), some (zI (s.1 + 1)), some (zI s.2.1), some (zI (gi s.2.2 30 v0 (zn s.1)))]) dX5_reverse_40 rfl rfl (by decide) rfl ?_
      refine V_iinc 46 rfl (s.2.1 + (-1)) (L' := [some (zK 5 v0), some (zI (s.1 + 1)), some (zI (s.2.1 + (-1))), some (zI (gi s.2.2 30 v0 (zn s.1)))]) dX5_reverse_43 rfl rfl (by decide) rfl ?_
      refine V_goto 9 dX5_reverse_46 (by decide) ?_
      exact V_w (zsub_s (zsub_s (zsub_s (zsub_n zsub_0)))) (kc ((s.1 + 1), (s.2.1 + (-1)), (wi ((wi s.2.2 30 v0 (zn s.1) ((gi s.2.2 30 v0 (zn s.2.1))))) 30 v0 (zn s.2.1) ((gi s.2.2 30 v0 (zn s.1))))) (zinj h))
theorem wX5_reverse {E : zE} {d : Nat} (hd : 0 ≤ d) {Q : Option zV → zM → Prop} {v0 : Nat} {mm : zM} {o : zM} (h : fX5_reverse v0 mm = some o) (hQ : ∀ r, o = r → Q none r) : V E RX5 cX5_reverse 4 none d Q 0 [some (zK 5 v0), none, none, none] [] mm := by
  unfold fX5_reverse at h
  refine V_iconst 1 rfl (v := 0) dX5_reverse_0 (by decide) ?_
  refine V_istore_n 2 rfl 1 (L' := [some (zK 5 v0), some (zI 0), none, none]) dX5_reverse_1 rfl (by decide) rfl ?_
  refine V_aload_n 3 rfl 0 dX5_reverse_2 rfl rfl ?_
  refine V_geti 6 rfl dX5_reverse_3 fl_X5_15 rfl ?_
  refine V_iconst 7 rfl (v := 1) dX5_reverse_6 (by decide) ?_
  refine V_isub 8 rfl dX5_reverse_7 ?_
  refine V_istore_n 9 rfl 2 (L' := [some (zK 5 v0), some (zI 0), some (zI (((gi mm 5 v0 1)) - 1)), none]) dX5_reverse_8 rfl (by decide) rfl ?_
  obtain ⟨o3, h1, h⟩ := zbd h
  refine wX5_reverse_L9 hd h1 (fun y1 e => ?_)
  have h := zcl_ e h
  exact V_vret dX5_reverse_49 rfl (hQ y1 (zinj h))
theorem ctX5_reverse {E : zE} {d : Nat} (hd : 0 ≤ d) {v0 : Nat} {mm : zM} {o : zM} (h : fX5_reverse v0 mm = some o) : zOC E yX5_reverse cX5_reverse 4 none d [zK 5 v0] mm none o :=
  zCT_of (by decide) (Nat.le_of_ble_eq_true rfl) (zk_k zk_0) rfl (wX5_reverse hd h (fun r e => ⟨rfl, by rw [e]⟩))
def fX9_turn (v1 : Int32) (mm : zM) : Option (Int32 × zM) :=
  (gr mm 9 2).bind (fun j1 => (fX8_isType j1 v1 mm).bind (fun x2 => if x2 = 0 then (some (((-1), mm))) else ((gr mm 9 2).bind (fun j3 => zob (zin v1 12) (if 2 ≤ (gi mm 5 (2 * (12 * j3 + zn v1)) 1) then ((fX9_beginAct v1 mm).bind (fun x4 => (fX5_reverse ((2 * (12 * j3 + zn v1))) x4).bind (fun x5 => some (((gi x5 5 (2 * (12 * j3 + zn v1)) 1), x5))))) else (some (((-2), mm))))))))
theorem wX9_turn {E : zE} {d : Nat} (hd : 5 ≤ d) {Q : Option zV → zM → Prop} {v1 : Int32} {mm : zM} {o : (Int32 × zM)} (h : fX9_turn v1 mm = some o) (hQ : ∀ r, o = r → Q (some (zI r.1)) r.2) : V E RX9 cX9_turn 3 (some .int) d Q 0 [some (zK 9 0), some (zI v1), none] [] mm := by
  unfold fX9_turn at h
  refine V_aload_n 1 rfl 0 dX9_turn_0 rfl rfl ?_
  obtain ⟨j1, hj, h⟩ := zbd h
  refine V_getm 4 rfl 8 dX9_turn_1 fl_X9_16 rfl rfl hj ?_
  refine V_iload_n 5 rfl 1 dX9_turn_4 rfl rfl ?_
  obtain ⟨x2, h1, h⟩ := zbd h
  refine V_cV 8 rfl 1 [zI v1] [] dX9_turn_5 cv_X9_94 (ctX8_isType (Nat.le_refl 1) h1) (Nat.le_trans (by decide) hd) rfl rfl (Nat.le_of_ble_eq_true rfl) zoki rfl ?_
  refine V_if_ne 11 13 rfl dX9_turn_8 (by decide) (fun c => ?_) (fun c => ?_)
  · have h := zneg c h
    refine V_aload_n 14 rfl 0 dX9_turn_13 rfl rfl ?_
    obtain ⟨j3, hj, h⟩ := zbd h
    refine V_getm 17 rfl 8 dX9_turn_14 fl_X9_16 rfl rfl hj ?_
    refine V_getr 20 rfl 35 j3 dX9_turn_17 fl_X9_98 rfl rfl rfl ?_
    refine V_iload_n 21 rfl 1 dX9_turn_20 rfl rfl ?_
    obtain ⟨hi, h⟩ := zobd h
    refine V_aald 22 rfl 7 (12 * j3 + zn v1) dX9_turn_21 rfl (by decide) (by decide) rfl rfl hi ?_
    refine V_getr 25 rfl 5 (2 * (12 * j3 + zn v1)) dX9_turn_22 fl_X9_102 rfl rfl rfl ?_
    refine V_astore_n 26 rfl 2 (L' := [some (zK 9 0), some (zI v1), some (zK 5 (2 * (12 * j3 + zn v1)))]) dX9_turn_25 rfl (by decide) rfl ?_
    refine V_aload_n 27 rfl 2 dX9_turn_26 rfl rfl ?_
    refine V_geti 30 rfl dX9_turn_27 fl_X9_114 rfl ?_
    refine V_iconst 31 rfl (v := 2) dX9_turn_30 (by decide) ?_
    refine V_icmp_ge 34 37 rfl dX9_turn_31 (by decide) (fun c => ?_) (fun c => ?_)
    · have h := zpos c h
      refine V_aload_n 38 rfl 0 dX9_turn_37 rfl rfl ?_
      refine V_iload_n 39 rfl 1 dX9_turn_38 rfl rfl ?_
      obtain ⟨x4, h1, h⟩ := zbd h
      refine V_cV 42 rfl 4 [zI v1] [] dX9_turn_39 cv_X9_115 (ctX9_beginAct (Nat.le_refl 4) h1) (Nat.le_trans (by decide) hd) rfl rfl (Nat.le_of_ble_eq_true rfl) zokn rfl ?_
      refine V_aload_n 43 rfl 2 dX9_turn_42 rfl rfl ?_
      obtain ⟨x5, h1, h⟩ := zbd h
      refine V_cV 46 rfl 0 [] [] dX9_turn_43 cv_X9_124 (ctX5_reverse (Nat.le_refl 0) h1) (Nat.le_trans (by decide) hd) rfl rfl (Nat.le_of_ble_eq_true rfl) zokn rfl ?_
      refine V_aload_n 47 rfl 2 dX9_turn_46 rfl rfl ?_
      refine V_geti 50 rfl dX9_turn_47 fl_X9_114 rfl ?_
      exact V_iret dX9_turn_50 rfl (hQ (((gi x5 5 (2 * (12 * j3 + zn v1)) 1), x5)) (zinj h))
    · have h := zneg c h
      refine V_bipush 36 rfl (v := (-2)) dX9_turn_34 (by decide) ?_
      exact V_iret dX9_turn_36 rfl (hQ (((-2), mm)) (zinj h))
  · have h := zpos c h
    refine V_iconst 12 rfl (v := (-1)) dX9_turn_11 (by decide) ?_
    exact V_iret dX9_turn_12 rfl (hQ (((-1), mm)) (zinj h))
theorem ctX9_turn {E : zE} {d : Nat} (hd : 5 ≤ d) {v1 : Int32} {mm : zM} {o : (Int32 × zM)} (h : fX9_turn v1 mm = some o) : zOC E yX9_turn cX9_turn 3 (some .int) d [zK 9 0, zI v1] mm (some (zI o.1)) o.2 :=
  zCT_of (by decide) (Nat.le_of_ble_eq_true rfl) (zk_k (zk_i zk_0)) rfl (wX9_turn hd h (fun r e => ⟨by rw [e], by rw [e]⟩))
def fX9_isLetter (v0 : Int32) (mm : zM) : Option Int32 :=
  if v0 < 0 then (some 0) else (if 26 ≤ v0 then (some 0) else (some 1))
theorem wX9_isLetter {E : zE} {d : Nat} (hd : 0 ≤ d) {Q : Option zV → zM → Prop} {v0 : Int32} {mm : zM} {o : Int32} (h : fX9_isLetter v0 mm = some o) (hQ : ∀ r, o = r → Q (some (zI r)) mm) : V E RX9 cX9_isLetter 1 (some .boolean) d Q 0 [some (zI v0)] [] mm := by
  unfold fX9_isLetter at h
  refine V_iload_n 1 rfl 0 dX9_isLetter_0 rfl rfl ?_
  refine V_if_lt 4 14 rfl dX9_isLetter_1 (by decide) (fun c => ?_) (fun c => ?_)
  · have h := zpos c h
    refine V_iconst 15 rfl (v := 0) dX9_isLetter_14 (by decide) ?_
    exact V_zret dX9_isLetter_15 rfl rfl (hQ 0 (zinj h))
  · have h := zneg c h
    refine V_iload_n 5 rfl 0 dX9_isLetter_4 rfl rfl ?_
    refine V_bipush 7 rfl (v := 26) dX9_isLetter_5 (by decide) ?_
    refine V_icmp_ge 10 14 rfl dX9_isLetter_7 (by decide) (fun c => ?_) (fun c => ?_)
    · have h := zpos c h
      refine V_iconst 15 rfl (v := 0) dX9_isLetter_14 (by decide) ?_
      exact V_zret dX9_isLetter_15 rfl rfl (hQ 0 (zinj h))
    · have h := zneg c h
      refine V_iconst 11 rfl (v := 1) dX9_isLetter_10 (by decide) ?_
      refine V_goto 15 dX9_isLetter_11 (by decide) ?_
      exact V_zret dX9_isLetter_15 rfl rfl (hQ 1 (zinj h))
theorem ctX9_isLetter {E : zE} {d : Nat} (hd : 0 ≤ d) {v0 : Int32} {mm : zM} {o : Int32} (h : fX9_isLetter v0 mm = some o) : zOC E yX9_isLetter cX9_isLetter 1 (some .boolean) d [zI v0] mm (some (zI o)) mm :=
  zCT_of (by decide) (Nat.le_of_ble_eq_true rfl) (zk_i zk_0) rfl (wX9_isLetter hd h (fun r e => ⟨by rw [e], rfl⟩))
def fX9_beginMember_J34 (v1 : Int32) (v2 : Int32) (v3 : Nat) (v4 : Int32) (mm : zM) : Option (Int32 × zM) :=
  (fX9_beginAct v1 mm).bind (fun x3 => (fX7_require v3 v2 x3).bind (fun x4 => if v4 = 0 then (some ((0, x4))) else (some ((1, x4)))))
def fX9_beginMember (v1 : Int32) (v2 : Int32) (mm : zM) : Option (Int32 × zM) :=
  (gr mm 9 2).bind (fun j1 => zob (zin v1 12) ((fX7_tells ((12 * j1 + zn v1)) v2 mm).bind (fun x2 => if x2 = 0 then (if (gi mm 7 (12 * j1 + zn v1) 2) < 8 then (fX9_beginMember_J34 v1 v2 ((12 * j1 + zn v1)) x2 mm) else (some (((-3), mm)))) else (fX9_beginMember_J34 v1 v2 ((12 * j1 + zn v1)) x2 mm))))
theorem wX9_beginMember_J34 {E : zE} {d : Nat} (hd : 5 ≤ d) {Q : Option zV → zM → Prop} {v1 : Int32} {v2 : Int32} {v3 : Nat} {v4 : Int32} {mm : zM} {o : (Int32 × zM)} (h : fX9_beginMember_J34 v1 v2 v3 v4 mm = some o) (hQ : ∀ r, o = r → Q (some (zI r.1)) r.2) : V E RX9 cX9_beginMember 5 (some .int) d Q 34 [some (zK 9 0), some (zI v1), some (zI v2), some (zK 7 v3), some (zI v4)] [] mm := by
  unfold fX9_beginMember_J34 at h
  refine V_aload_n 35 rfl 0 dX9_beginMember_34 rfl rfl ?_
  refine V_iload_n 36 rfl 1 dX9_beginMember_35 rfl rfl ?_
  obtain ⟨x3, h1, h⟩ := zbd h
  refine V_cV 39 rfl 4 [zI v1] [] dX9_beginMember_36 cv_X9_115 (ctX9_beginAct (Nat.le_refl 4) h1) (Nat.le_trans (by decide) hd) rfl rfl (Nat.le_of_ble_eq_true rfl) zokn rfl ?_
  refine V_aload_n 40 rfl 3 dX9_beginMember_39 rfl rfl ?_
  refine V_iload_n 41 rfl 2 dX9_beginMember_40 rfl rfl ?_
  obtain ⟨x4, h1, h⟩ := zbd h
  refine V_cV 44 rfl 1 [zI v2] [] dX9_beginMember_41 cv_X9_157 (ctX7_require (Nat.le_refl 1) h1) (Nat.le_trans (by decide) hd) rfl rfl (Nat.le_of_ble_eq_true rfl) zokn rfl ?_
  refine V_iload 46 rfl dX9_beginMember_44 rfl ?_
  refine V_if_eq 49 53 rfl dX9_beginMember_46 (by decide) (fun c => ?_) (fun c => ?_)
  · have h := zpos c h
    refine V_iconst 54 rfl (v := 0) dX9_beginMember_53 (by decide) ?_
    exact V_iret dX9_beginMember_54 rfl (hQ ((0, x4)) (zinj h))
  · have h := zneg c h
    refine V_iconst 50 rfl (v := 1) dX9_beginMember_49 (by decide) ?_
    refine V_goto 54 dX9_beginMember_50 (by decide) ?_
    exact V_iret dX9_beginMember_54 rfl (hQ ((1, x4)) (zinj h))
theorem wX9_beginMember {E : zE} {d : Nat} (hd : 5 ≤ d) {Q : Option zV → zM → Prop} {v1 : Int32} {v2 : Int32} {mm : zM} {o : (Int32 × zM)} (h : fX9_beginMember v1 v2 mm = some o) (hQ : ∀ r, o = r → Q (some (zI r.1)) r.2) : V E RX9 cX9_beginMember 5 (some .int) d Q 0 [some (zK 9 0), some (zI v1), some (zI v2), none, none] [] mm := by
  unfold fX9_beginMember at h
  refine V_aload_n 1 rfl 0 dX9_beginMember_0 rfl rfl ?_
  obtain ⟨j1, hj, h⟩ := zbd h
  refine V_getm 4 rfl 8 dX9_beginMember_1 fl_X9_16 rfl rfl hj ?_
  refine V_getr 7 rfl 35 j1 dX9_beginMember_4 fl_X9_98 rfl rfl rfl ?_
  refine V_iload_n 8 rfl 1 dX9_beginMember_7 rfl rfl ?_
  obtain ⟨hi, h⟩ := zobd h
  refine V_aald 9 rfl 7 (12 * j1 + zn v1) dX9_beginMember_8 rfl (by decide) (by decide) rfl rfl hi ?_
  refine V_astore_n 10 rfl 3 (L' := [some (zK 9 0), some (zI v1), some (zI v2), some (zK 7 (12 * j1 + zn v1)), none]) dX9_beginMember_9 rfl (by decide) rfl ?_
  refine V_aload_n 11 rfl 3 dX9_beginMember_10 rfl rfl ?_
  refine V_iload_n 12 rfl 2 dX9_beginMember_11 rfl rfl ?_
  obtain ⟨x2, h1, h⟩ := zbd h
  refine V_cV 15 rfl 0 [zI v2] [] dX9_beginMember_12 cv_X9_151 (ctX7_tells (Nat.le_refl 0) h1) (Nat.le_trans (by decide) hd) rfl rfl (Nat.le_of_ble_eq_true rfl) zoki rfl ?_
  refine V_istore 17 rfl (L' := [some (zK 9 0), some (zI v1), some (zI v2), some (zK 7 (12 * j1 + zn v1)), some (zI x2)]) dX9_beginMember_15 (by decide) rfl ?_
  refine V_iload 19 rfl dX9_beginMember_17 rfl ?_
  refine V_if_ne 22 34 rfl dX9_beginMember_19 (by decide) (fun c => ?_) (fun c => ?_)
  · have h := zneg c h
    exact wX9_beginMember_J34 hd h hQ
  · have h := zpos c h
    refine V_aload_n 23 rfl 3 dX9_beginMember_22 rfl rfl ?_
    refine V_geti 26 rfl dX9_beginMember_23 fl_X9_154 rfl ?_
    refine V_bipush 28 rfl (v := 8) dX9_beginMember_26 (by decide) ?_
    refine V_icmp_lt 31 34 rfl dX9_beginMember_28 (by decide) (fun c => ?_) (fun c => ?_)
    · have h := zpos c h
      exact wX9_beginMember_J34 hd h hQ
    · have h := zneg c h
      refine V_bipush 33 rfl (v := (-3)) dX9_beginMember_31 (by decide) ?_
      exact V_iret dX9_beginMember_33 rfl (hQ (((-3), mm)) (zinj h))
theorem ctX9_beginMember {E : zE} {d : Nat} (hd : 5 ≤ d) {v1 : Int32} {v2 : Int32} {mm : zM} {o : (Int32 × zM)} (h : fX9_beginMember v1 v2 mm = some o) : zOC E yX9_beginMember cX9_beginMember 5 (some .int) d [zK 9 0, zI v1, zI v2] mm (some (zI o.1)) o.2 :=
  zCT_of (by decide) (Nat.le_of_ble_eq_true rfl) (zk_k (zk_i (zk_i zk_0))) rfl (wX9_beginMember hd h (fun r e => ⟨by rw [e], by rw [e]⟩))
def fX7_termAt (v0 : Nat) (v1 : Int32) (v2 : Int32) (mm : zM) : Option Int32 :=
  zob (zin ((((v1 * 4)) + v2)) 104) (some ((gi mm 33 v0 (zn ((((v1 * 4)) + v2))))))
theorem wX7_termAt {E : zE} {d : Nat} (hd : 0 ≤ d) {Q : Option zV → zM → Prop} {v0 : Nat} {v1 : Int32} {v2 : Int32} {mm : zM} {o : Int32} (h : fX7_termAt v0 v1 v2 mm = some o) (hQ : ∀ r, o = r → Q (some (zI r)) mm) : V E RX7 cX7_termAt 3 (some .int) d Q 0 [some (zK 7 v0), some (zI v1), some (zI v2)] [] mm := by
  unfold fX7_termAt at h
  refine V_aload_n 1 rfl 0 dX7_termAt_0 rfl rfl ?_
  refine V_getr 4 rfl 33 v0 dX7_termAt_1 fl_X7_28 rfl rfl rfl ?_
  refine V_iload_n 5 rfl 1 dX7_termAt_4 rfl rfl ?_
  refine V_iconst 6 rfl (v := 4) dX7_termAt_5 (by decide) ?_
  refine V_imul 7 rfl dX7_termAt_6 ?_
  refine V_iload_n 8 rfl 2 dX7_termAt_7 rfl rfl ?_
  refine V_iadd 9 rfl dX7_termAt_8 ?_
  obtain ⟨hi, h⟩ := zobd h
  refine V_iald 10 rfl dX7_termAt_9 rfl hi ?_
  exact V_iret dX7_termAt_10 rfl (hQ ((gi mm 33 v0 (zn ((((v1 * 4)) + v2))))) (zinj h))
theorem ctX7_termAt {E : zE} {d : Nat} (hd : 0 ≤ d) {v0 : Nat} {v1 : Int32} {v2 : Int32} {mm : zM} {o : Int32} (h : fX7_termAt v0 v1 v2 mm = some o) : zOC E yX7_termAt cX7_termAt 3 (some .int) d [zK 7 v0, zI v1, zI v2] mm (some (zI o)) mm :=
  zCT_of (by decide) (Nat.le_of_ble_eq_true rfl) (zk_k (zk_i (zk_i zk_0))) rfl (wX7_termAt hd h (fun r e => ⟨by rw [e], rfl⟩))
def fX9_give_J87 (v2 : Int32) (v3 : Int32) (v4 : Nat) (s0 : Int32) (mm : zM) : Option (Int32 × zM) :=
  if s0 < 0 then (some ((s0, mm))) else ((fX7_addTerm v4 v2 v3 mm).bind (fun x6 => some ((s0, x6))))
def fX9_give_J69 (v1 : Int32) (v2 : Int32) (v3 : Int32) (v4 : Nat) (s0 : Int32) (mm : zM) : Option (Int32 × zM) :=
  if s0 = 0 then ((fX9_beginMember v1 v2 mm).bind (fun x5 => fX9_give_J87 v2 v3 v4 x5.1 x5.2)) else (fX9_give_J87 v2 v3 v4 ((-2)) mm)
def fX9_give_J68 (v1 : Int32) (v2 : Int32) (v3 : Int32) (v4 : Nat) (mm : zM) : Option (Int32 × zM) :=
  fX9_give_J69 v1 v2 v3 v4 0 mm
def fX9_give (v1 : Int32) (v2 : Int32) (v3 : Int32) (mm : zM) : Option (Int32 × zM) :=
  (gr mm 9 2).bind (fun j1 => (fX8_isUnit j1 v1 mm).bind (fun x2 => if x2 = 0 then (some (((-1), mm))) else ((fX9_isLetter v2 mm).bind (fun x3 => if x3 = 0 then (some (((-1), mm))) else (if v3 < 0 then (some (((-1), mm))) else (if v3 ≤ 999 then ((gr mm 9 2).bind (fun j4 => zob (zin v1 12) (zob (zin v2 26) (if (gi mm 32 (12 * j4 + zn v1) (zn v2)) = 1 then ((fX7_termAt ((12 * j4 + zn v1)) v2 0 mm).bind (fun x7 => if x7 = v3 then (fX9_give_J69 v1 v2 v3 ((12 * j4 + zn v1)) 1 mm) else (fX9_give_J68 v1 v2 v3 ((12 * j4 + zn v1)) mm))) else (fX9_give_J68 v1 v2 v3 ((12 * j4 + zn v1)) mm))))) else (some (((-1), mm)))))))))
theorem wX9_give_J87 {E : zE} {d : Nat} (hd : 6 ≤ d) {Q : Option zV → zM → Prop} {v2 : Int32} {v3 : Int32} {v4 : Nat} {s0 : Int32} {mm : zM} {o : (Int32 × zM)} (h : fX9_give_J87 v2 v3 v4 s0 mm = some o) (hQ : ∀ r, o = r → Q (some (zI r.1)) r.2) : V E RX9 cX9_give 7 (some .int) d Q 87 [none, none, some (zI v2), some (zI v3), some (zK 7 v4), none, none] [zI s0] mm := by
  unfold fX9_give_J87 at h
  refine V_istore 89 rfl (L' := [none, none, some (zI v2), some (zI v3), some (zK 7 v4), none, some (zI s0)]) dX9_give_87 (by decide) rfl ?_
  refine V_iload 91 rfl dX9_give_89 rfl ?_
  refine V_if_lt 94 101 rfl dX9_give_91 (by decide) (fun c => ?_) (fun c => ?_)
  · have h := zpos c h
    refine V_iload 103 rfl dX9_give_101 rfl ?_
    exact V_iret dX9_give_103 rfl (hQ ((s0, mm)) (zinj h))
  · have h := zneg c h
    refine V_aload 96 rfl dX9_give_94 rfl ?_
    refine V_iload_n 97 rfl 2 dX9_give_96 rfl rfl ?_
    refine V_iload_n 98 rfl 3 dX9_give_97 rfl rfl ?_
    obtain ⟨x6, h1, h⟩ := zbd h
    refine V_cV 101 rfl 0 [zI v2, zI v3] [] dX9_give_98 cv_X9_144 (ctX7_addTerm (Nat.le_refl 0) h1) (Nat.le_trans (by decide) hd) rfl rfl (Nat.le_of_ble_eq_true rfl) zokn rfl ?_
    refine V_iload 103 rfl dX9_give_101 rfl ?_
    exact V_iret dX9_give_103 rfl (hQ ((s0, x6)) (zinj h))
theorem wX9_give_J69 {E : zE} {d : Nat} (hd : 6 ≤ d) {Q : Option zV → zM → Prop} {v1 : Int32} {v2 : Int32} {v3 : Int32} {v4 : Nat} {s0 : Int32} {mm : zM} {o : (Int32 × zM)} (h : fX9_give_J69 v1 v2 v3 v4 s0 mm = some o) (hQ : ∀ r, o = r → Q (some (zI r.1)) r.2) : V E RX9 cX9_give 7 (some .int) d Q 69 [some (zK 9 0), some (zI v1), some (zI v2), some (zI v3), some (zK 7 v4), none, none] [zI s0] mm := by
  unfold fX9_give_J69 at h
  refine V_istore 71 rfl (L' := [some (zK 9 0), some (zI v1), some (zI v2), some (zI v3), some (zK 7 v4), some (zI s0), none]) dX9_give_69 (by decide) rfl ?_
  refine V_iload 73 rfl dX9_give_71 rfl ?_
  refine V_if_eq 76 81 rfl dX9_give_73 (by decide) (fun c => ?_) (fun c => ?_)
  · have h := zpos c h
    refine V_aload_n 82 rfl 0 dX9_give_81 rfl rfl ?_
    refine V_iload_n 83 rfl 1 dX9_give_82 rfl rfl ?_
    refine V_iload_n 84 rfl 2 dX9_give_83 rfl rfl ?_
    obtain ⟨x5, h1, h⟩ := zbd h
    refine V_cV 87 rfl 5 [zI v1, zI v2] [] dX9_give_84 cv_X9_141 (ctX9_beginMember (Nat.le_refl 5) h1) (Nat.le_trans (by decide) hd) rfl rfl (Nat.le_of_ble_eq_true rfl) zoki rfl ?_
    exact V_w (zsub_n (zsub_n (zsub_s (zsub_s (zsub_s (zsub_n (zsub_s zsub_0))))))) (wX9_give_J87 hd h hQ)
  · have h := zneg c h
    refine V_bipush 78 rfl (v := (-2)) dX9_give_76 (by decide) ?_
    refine V_goto 87 dX9_give_78 (by decide) ?_
    exact V_w (zsub_n (zsub_n (zsub_s (zsub_s (zsub_s (zsub_n (zsub_s zsub_0))))))) (wX9_give_J87 hd h hQ)
theorem wX9_give_J68 {E : zE} {d : Nat} (hd : 6 ≤ d) {Q : Option zV → zM → Prop} {v1 : Int32} {v2 : Int32} {v3 : Int32} {v4 : Nat} {mm : zM} {o : (Int32 × zM)} (h : fX9_give_J68 v1 v2 v3 v4 mm = some o) (hQ : ∀ r, o = r → Q (some (zI r.1)) r.2) : V E RX9 cX9_give 7 (some .int) d Q 68 [some (zK 9 0), some (zI v1), some (zI v2), some (zI v3), some (zK 7 v4), none, none] [] mm := by
  unfold fX9_give_J68 at h
  refine V_iconst 69 rfl (v := 0) dX9_give_68 (by decide) ?_
  exact wX9_give_J69 hd h hQ
theorem wX9_give {E : zE} {d : Nat} (hd : 6 ≤ d) {Q : Option zV → zM → Prop} {v1 : Int32} {v2 : Int32} {v3 : Int32} {mm : zM} {o : (Int32 × zM)} (h : fX9_give v1 v2 v3 mm = some o) (hQ : ∀ r, o = r → Q (some (zI r.1)) r.2) : V E RX9 cX9_give 7 (some .int) d Q 0 [some (zK 9 0), some (zI v1), some (zI v2), some (zI v3), none, none, none] [] mm := by
  unfold fX9_give at h
  refine V_aload_n 1 rfl 0 dX9_give_0 rfl rfl ?_
  obtain ⟨j1, hj, h⟩ := zbd h
  refine V_getm 4 rfl 8 dX9_give_1 fl_X9_16 rfl rfl hj ?_
  refine V_iload_n 5 rfl 1 dX9_give_4 rfl rfl ?_
  obtain ⟨x2, h1, h⟩ := zbd h
  refine V_cV 8 rfl 0 [zI v1] [] dX9_give_5 cv_X9_127 (ctX8_isUnit (Nat.le_refl 0) h1) (Nat.le_trans (by decide) hd) rfl rfl (Nat.le_of_ble_eq_true rfl) zoki rfl ?_
  refine V_if_eq 11 29 rfl dX9_give_8 (by decide) (fun c => ?_) (fun c => ?_)
  · have h := zpos c h
    refine V_iconst 30 rfl (v := (-1)) dX9_give_29 (by decide) ?_
    exact V_iret dX9_give_30 rfl (hQ (((-1), mm)) (zinj h))
  · have h := zneg c h
    refine V_iload_n 12 rfl 2 dX9_give_11 rfl rfl ?_
    obtain ⟨x3, h1, h⟩ := zbd h
    refine V_cS 15 rfl 0 [zI v2] [] dX9_give_12 cs_X9_130 (ctX9_isLetter (Nat.le_refl 0) h1) (Nat.le_trans (by decide) hd) rfl rfl (Nat.le_of_ble_eq_true rfl) zoki rfl ?_
    refine V_if_eq 18 29 rfl dX9_give_15 (by decide) (fun c => ?_) (fun c => ?_)
    · have h := zpos c h
      refine V_iconst 30 rfl (v := (-1)) dX9_give_29 (by decide) ?_
      exact V_iret dX9_give_30 rfl (hQ (((-1), mm)) (zinj h))
    · have h := zneg c h
      refine V_iload_n 19 rfl 3 dX9_give_18 rfl rfl ?_
      refine V_if_lt 22 29 rfl dX9_give_19 (by decide) (fun c => ?_) (fun c => ?_)
      · have h := zpos c h
        refine V_iconst 30 rfl (v := (-1)) dX9_give_29 (by decide) ?_
        exact V_iret dX9_give_30 rfl (hQ (((-1), mm)) (zinj h))
      · have h := zneg c h
        refine V_iload_n 23 rfl 3 dX9_give_22 rfl rfl ?_
        refine V_sipush 26 rfl (v := 999) dX9_give_23 (by decide) ?_
        refine V_icmp_le 29 31 rfl dX9_give_26 (by decide) (fun c => ?_) (fun c => ?_)
        · have h := zpos c h
          refine V_aload_n 32 rfl 0 dX9_give_31 rfl rfl ?_
          obtain ⟨j4, hj, h⟩ := zbd h
          refine V_getm 35 rfl 8 dX9_give_32 fl_X9_16 rfl rfl hj ?_
          refine V_getr 38 rfl 35 j4 dX9_give_35 fl_X9_98 rfl rfl rfl ?_
          refine V_iload_n 39 rfl 1 dX9_give_38 rfl rfl ?_
          obtain ⟨hi, h⟩ := zobd h
          refine V_aald 40 rfl 7 (12 * j4 + zn v1) dX9_give_39 rfl (by decide) (by decide) rfl rfl hi ?_
          refine V_astore 42 rfl (L' := [some (zK 9 0), some (zI v1), some (zI v2), some (zI v3), some (zK 7 (12 * j4 + zn v1)), none, none]) dX9_give_40 (by decide) rfl ?_
          refine V_aload 44 rfl dX9_give_42 rfl ?_
          refine V_getr 47 rfl 32 (12 * j4 + zn v1) dX9_give_44 fl_X9_133 rfl rfl rfl ?_
          refine V_iload_n 48 rfl 2 dX9_give_47 rfl rfl ?_
          obtain ⟨hi, h⟩ := zobd h
          refine V_iald 49 rfl dX9_give_48 rfl hi ?_
          refine V_iconst 50 rfl (v := 1) dX9_give_49 (by decide) ?_
          refine V_icmp_ne 53 68 rfl dX9_give_50 (by decide) (fun c => ?_) (fun c => ?_)
          · have h := zneg c h
            exact wX9_give_J68 hd h hQ
          · have h := zpos c h
            refine V_aload 55 rfl dX9_give_53 rfl ?_
            refine V_iload_n 56 rfl 2 dX9_give_55 rfl rfl ?_
            refine V_iconst 57 rfl (v := 0) dX9_give_56 (by decide) ?_
            obtain ⟨x7, h1, h⟩ := zbd h
            refine V_cV 60 rfl 0 [zI v2, zI 0] [] dX9_give_57 cv_X9_137 (ctX7_termAt (Nat.le_refl 0) h1) (Nat.le_trans (by decide) hd) rfl rfl (Nat.le_of_ble_eq_true rfl) zoki rfl ?_
            refine V_iload_n 61 rfl 3 dX9_give_60 rfl rfl ?_
            refine V_icmp_ne 64 68 rfl dX9_give_61 (by decide) (fun c => ?_) (fun c => ?_)
            · have h := zneg c h
              exact wX9_give_J68 hd h hQ
            · have h := zpos c h
              refine V_iconst 65 rfl (v := 1) dX9_give_64 (by decide) ?_
              refine V_goto 69 dX9_give_65 (by decide) ?_
              exact wX9_give_J69 hd h hQ
        · have h := zneg c h
          refine V_iconst 30 rfl (v := (-1)) dX9_give_29 (by decide) ?_
          exact V_iret dX9_give_30 rfl (hQ (((-1), mm)) (zinj h))
theorem ctX9_give {E : zE} {d : Nat} (hd : 6 ≤ d) {v1 : Int32} {v2 : Int32} {v3 : Int32} {mm : zM} {o : (Int32 × zM)} (h : fX9_give v1 v2 v3 mm = some o) : zOC E yX9_give cX9_give 7 (some .int) d [zK 9 0, zI v1, zI v2, zI v3] mm (some (zI o.1)) o.2 :=
  zCT_of (by decide) (Nat.le_of_ble_eq_true rfl) (zk_k (zk_i (zk_i (zk_i zk_0)))) rfl (wX9_give hd h (fun r e => ⟨by rw [e], by rw [e]⟩))
def fX7_requires (v0 : Nat) (v1 : Int32) (mm : zM) : Option Int32 :=
  zob (zin v1 26) (if (gi mm 32 v0 (zn v1)) = 0 then (some 1) else (some 0))
theorem wX7_requires {E : zE} {d : Nat} (hd : 0 ≤ d) {Q : Option zV → zM → Prop} {v0 : Nat} {v1 : Int32} {mm : zM} {o : Int32} (h : fX7_requires v0 v1 mm = some o) (hQ : ∀ r, o = r → Q (some (zI r)) mm) : V E RX7 cX7_requires 2 (some .boolean) d Q 0 [some (zK 7 v0), some (zI v1)] [] mm := by
  unfold fX7_requires at h
  refine V_aload_n 1 rfl 0 dX7_requires_0 rfl rfl ?_
  refine V_getr 4 rfl 32 v0 dX7_requires_1 fl_X7_25 rfl rfl rfl ?_
  refine V_iload_n 5 rfl 1 dX7_requires_4 rfl rfl ?_
  obtain ⟨hi, h⟩ := zobd h
  refine V_iald 6 rfl dX7_requires_5 rfl hi ?_
  refine V_if_ne 9 13 rfl dX7_requires_6 (by decide) (fun c => ?_) (fun c => ?_)
  · have h := zneg c h
    refine V_iconst 14 rfl (v := 0) dX7_requires_13 (by decide) ?_
    exact V_zret dX7_requires_14 rfl rfl (hQ 0 (zinj h))
  · have h := zpos c h
    refine V_iconst 10 rfl (v := 1) dX7_requires_9 (by decide) ?_
    refine V_goto 14 dX7_requires_10 (by decide) ?_
    exact V_zret dX7_requires_14 rfl rfl (hQ 1 (zinj h))
theorem ctX7_requires {E : zE} {d : Nat} (hd : 0 ≤ d) {v0 : Nat} {v1 : Int32} {mm : zM} {o : Int32} (h : fX7_requires v0 v1 mm = some o) : zOC E yX7_requires cX7_requires 2 (some .boolean) d [zK 7 v0, zI v1] mm (some (zI o)) mm :=
  zCT_of (by decide) (Nat.le_of_ble_eq_true rfl) (zk_k (zk_i zk_0)) rfl (wX7_requires hd h (fun r e => ⟨by rw [e], rfl⟩))
def fX9_need (v1 : Int32) (v2 : Int32) (mm : zM) : Option (Int32 × zM) :=
  (gr mm 9 2).bind (fun j1 => (fX8_isUnit j1 v1 mm).bind (fun x2 => if x2 = 0 then (some (((-1), mm))) else ((fX9_isLetter v2 mm).bind (fun x3 => if x3 = 0 then (some (((-1), mm))) else ((gr mm 9 2).bind (fun j4 => zob (zin v1 12) ((fX7_requires ((12 * j4 + zn v1)) v2 mm).bind (fun x5 => if x5 = 0 then ((fX9_beginMember v1 v2 mm).bind (fun x6 => some ((x6.1, x6.2)))) else (some (((-2), mm)))))))))))
theorem wX9_need {E : zE} {d : Nat} (hd : 6 ≤ d) {Q : Option zV → zM → Prop} {v1 : Int32} {v2 : Int32} {mm : zM} {o : (Int32 × zM)} (h : fX9_need v1 v2 mm = some o) (hQ : ∀ r, o = r → Q (some (zI r.1)) r.2) : V E RX9 cX9_need 3 (some .int) d Q 0 [some (zK 9 0), some (zI v1), some (zI v2)] [] mm := by
  unfold fX9_need at h
  refine V_aload_n 1 rfl 0 dX9_need_0 rfl rfl ?_
  obtain ⟨j1, hj, h⟩ := zbd h
  refine V_getm 4 rfl 8 dX9_need_1 fl_X9_16 rfl rfl hj ?_
  refine V_iload_n 5 rfl 1 dX9_need_4 rfl rfl ?_
  obtain ⟨x2, h1, h⟩ := zbd h
  refine V_cV 8 rfl 0 [zI v1] [] dX9_need_5 cv_X9_127 (ctX8_isUnit (Nat.le_refl 0) h1) (Nat.le_trans (by decide) hd) rfl rfl (Nat.le_of_ble_eq_true rfl) zoki rfl ?_
  refine V_if_eq 11 18 rfl dX9_need_8 (by decide) (fun c => ?_) (fun c => ?_)
  · have h := zpos c h
    refine V_iconst 19 rfl (v := (-1)) dX9_need_18 (by decide) ?_
    exact V_iret dX9_need_19 rfl (hQ (((-1), mm)) (zinj h))
  · have h := zneg c h
    refine V_iload_n 12 rfl 2 dX9_need_11 rfl rfl ?_
    obtain ⟨x3, h1, h⟩ := zbd h
    refine V_cS 15 rfl 0 [zI v2] [] dX9_need_12 cs_X9_130 (ctX9_isLetter (Nat.le_refl 0) h1) (Nat.le_trans (by decide) hd) rfl rfl (Nat.le_of_ble_eq_true rfl) zoki rfl ?_
    refine V_if_ne 18 20 rfl dX9_need_15 (by decide) (fun c => ?_) (fun c => ?_)
    · have h := zneg c h
      refine V_aload_n 21 rfl 0 dX9_need_20 rfl rfl ?_
      obtain ⟨j4, hj, h⟩ := zbd h
      refine V_getm 24 rfl 8 dX9_need_21 fl_X9_16 rfl rfl hj ?_
      refine V_getr 27 rfl 35 j4 dX9_need_24 fl_X9_98 rfl rfl rfl ?_
      refine V_iload_n 28 rfl 1 dX9_need_27 rfl rfl ?_
      obtain ⟨hi, h⟩ := zobd h
      refine V_aald 29 rfl 7 (12 * j4 + zn v1) dX9_need_28 rfl (by decide) (by decide) rfl rfl hi ?_
      refine V_iload_n 30 rfl 2 dX9_need_29 rfl rfl ?_
      obtain ⟨x5, h1, h⟩ := zbd h
      refine V_cV 33 rfl 0 [zI v2] [] dX9_need_30 cv_X9_148 (ctX7_requires (Nat.le_refl 0) h1) (Nat.le_trans (by decide) hd) rfl rfl (Nat.le_of_ble_eq_true rfl) zoki rfl ?_
      refine V_if_eq 36 41 rfl dX9_need_33 (by decide) (fun c => ?_) (fun c => ?_)
      · have h := zpos c h
        refine V_aload_n 42 rfl 0 dX9_need_41 rfl rfl ?_
        refine V_iload_n 43 rfl 1 dX9_need_42 rfl rfl ?_
        refine V_iload_n 44 rfl 2 dX9_need_43 rfl rfl ?_
        obtain ⟨x6, h1, h⟩ := zbd h
        refine V_cV 47 rfl 5 [zI v1, zI v2] [] dX9_need_44 cv_X9_141 (ctX9_beginMember (Nat.le_refl 5) h1) (Nat.le_trans (by decide) hd) rfl rfl (Nat.le_of_ble_eq_true rfl) zoki rfl ?_
        exact V_iret dX9_need_47 rfl (hQ ((x6.1, x6.2)) (zinj h))
      · have h := zneg c h
        refine V_bipush 38 rfl (v := (-2)) dX9_need_36 (by decide) ?_
        refine V_goto 47 dX9_need_38 (by decide) ?_
        exact V_iret dX9_need_47 rfl (hQ (((-2), mm)) (zinj h))
    · have h := zpos c h
      refine V_iconst 19 rfl (v := (-1)) dX9_need_18 (by decide) ?_
      exact V_iret dX9_need_19 rfl (hQ (((-1), mm)) (zinj h))
theorem ctX9_need {E : zE} {d : Nat} (hd : 6 ≤ d) {v1 : Int32} {v2 : Int32} {mm : zM} {o : (Int32 × zM)} (h : fX9_need v1 v2 mm = some o) : zOC E yX9_need cX9_need 3 (some .int) d [zK 9 0, zI v1, zI v2] mm (some (zI o.1)) o.2 :=
  zCT_of (by decide) (Nat.le_of_ble_eq_true rfl) (zk_k (zk_i (zk_i zk_0))) rfl (wX9_need hd h (fun r e => ⟨by rw [e], by rw [e]⟩))
def fX7_forget_J18 (v0 : Nat) (v1 : Int32) (mm : zM) : Option zM :=
  zob (zin v1 26) (some ((wi mm 32 v0 (zn v1) ((-1)))))
def fX7_forget (v0 : Nat) (v1 : Int32) (mm : zM) : Option zM :=
  (fX7_tells v0 v1 mm).bind (fun x1 => if x1 = 0 then (fX7_forget_J18 v0 v1 mm) else (fX7_forget_J18 v0 v1 ((wi mm 7 v0 2 ((((gi mm 7 v0 2)) - 1))))))
theorem wX7_forget_J18 {E : zE} {d : Nat} (hd : 1 ≤ d) {Q : Option zV → zM → Prop} {v0 : Nat} {v1 : Int32} {mm : zM} {o : zM} (h : fX7_forget_J18 v0 v1 mm = some o) (hQ : ∀ r, o = r → Q none r) : V E RX7 cX7_forget 2 none d Q 18 [some (zK 7 v0), some (zI v1)] [] mm := by
  unfold fX7_forget_J18 at h
  refine V_aload_n 19 rfl 0 dX7_forget_18 rfl rfl ?_
  refine V_getr 22 rfl 32 v0 dX7_forget_19 fl_X7_25 rfl rfl rfl ?_
  refine V_iload_n 23 rfl 1 dX7_forget_22 rfl rfl ?_
  refine V_iconst 24 rfl (v := (-1)) dX7_forget_23 (by decide) ?_
  obtain ⟨hi, h⟩ := zobd h
  refine V_iast 25 rfl dX7_forget_24 rfl hi ?_
  exact V_vret dX7_forget_25 rfl (hQ ((wi mm 32 v0 (zn v1) ((-1)))) (zinj h))
theorem wX7_forget {E : zE} {d : Nat} (hd : 1 ≤ d) {Q : Option zV → zM → Prop} {v0 : Nat} {v1 : Int32} {mm : zM} {o : zM} (h : fX7_forget v0 v1 mm = some o) (hQ : ∀ r, o = r → Q none r) : V E RX7 cX7_forget 2 none d Q 0 [some (zK 7 v0), some (zI v1)] [] mm := by
  unfold fX7_forget at h
  refine V_aload_n 1 rfl 0 dX7_forget_0 rfl rfl ?_
  refine V_iload_n 2 rfl 1 dX7_forget_1 rfl rfl ?_
  obtain ⟨x1, h1, h⟩ := zbd h
  refine V_cV 5 rfl 0 [zI v1] [] dX7_forget_2 cv_X7_54 (ctX7_tells (Nat.le_refl 0) h1) (Nat.le_trans (by decide) hd) rfl rfl (Nat.le_of_ble_eq_true rfl) zoki rfl ?_
  refine V_if_eq 8 18 rfl dX7_forget_5 (by decide) (fun c => ?_) (fun c => ?_)
  · have h := zpos c h
    exact wX7_forget_J18 hd h hQ
  · have h := zneg c h
    refine V_aload_n 9 rfl 0 dX7_forget_8 rfl rfl ?_
    refine V_dup 10 rfl dX7_forget_9 rfl ?_
    refine V_geti 13 rfl dX7_forget_10 fl_X7_42 rfl ?_
    refine V_iconst 14 rfl (v := 1) dX7_forget_13 (by decide) ?_
    refine V_isub 15 rfl dX7_forget_14 ?_
    refine V_puti 18 rfl dX7_forget_15 fw_X7_42 rfl rfl rfl ?_
    exact wX7_forget_J18 hd h hQ
theorem ctX7_forget {E : zE} {d : Nat} (hd : 1 ≤ d) {v0 : Nat} {v1 : Int32} {mm : zM} {o : zM} (h : fX7_forget v0 v1 mm = some o) : zOC E yX7_forget cX7_forget 2 none d [zK 7 v0, zI v1] mm none o :=
  zCT_of (by decide) (Nat.le_of_ble_eq_true rfl) (zk_k (zk_i zk_0)) rfl (wX7_forget hd h (fun r e => ⟨rfl, by rw [e]⟩))
def fX9_take (v1 : Int32) (v2 : Int32) (mm : zM) : Option (Int32 × zM) :=
  (gr mm 9 2).bind (fun j1 => (fX8_isUnit j1 v1 mm).bind (fun x2 => if x2 = 0 then (some (((-1), mm))) else ((fX9_isLetter v2 mm).bind (fun x3 => if x3 = 0 then (some (((-1), mm))) else ((gr mm 9 2).bind (fun j4 => zob (zin v1 12) ((fX7_tells ((12 * j4 + zn v1)) v2 mm).bind (fun x5 => if x5 = 0 then (some (((-1), mm))) else ((fX9_beginAct v1 mm).bind (fun x6 => (gr x6 9 2).bind (fun j7 => zob (zin v1 12) ((fX7_forget ((12 * j7 + zn v1)) v2 x6).bind (fun x8 => (gr x8 9 2).bind (fun j9 => zob (zin v1 12) (some (((gi x8 7 (12 * j9 + zn v1) 2), x8)))))))))))))))))
theorem wX9_take {E : zE} {d : Nat} (hd : 5 ≤ d) {Q : Option zV → zM → Prop} {v1 : Int32} {v2 : Int32} {mm : zM} {o : (Int32 × zM)} (h : fX9_take v1 v2 mm = some o) (hQ : ∀ r, o = r → Q (some (zI r.1)) r.2) : V E RX9 cX9_take 3 (some .int) d Q 0 [some (zK 9 0), some (zI v1), some (zI v2)] [] mm := by
  unfold fX9_take at h
  refine V_aload_n 1 rfl 0 dX9_take_0 rfl rfl ?_
  obtain ⟨j1, hj, h⟩ := zbd h
  refine V_getm 4 rfl 8 dX9_take_1 fl_X9_16 rfl rfl hj ?_
  refine V_iload_n 5 rfl 1 dX9_take_4 rfl rfl ?_
  obtain ⟨x2, h1, h⟩ := zbd h
  refine V_cV 8 rfl 0 [zI v1] [] dX9_take_5 cv_X9_127 (ctX8_isUnit (Nat.le_refl 0) h1) (Nat.le_trans (by decide) hd) rfl rfl (Nat.le_of_ble_eq_true rfl) zoki rfl ?_
  refine V_if_eq 11 34 rfl dX9_take_8 (by decide) (fun c => ?_) (fun c => ?_)
  · have h := zpos c h
    refine V_iconst 35 rfl (v := (-1)) dX9_take_34 (by decide) ?_
    exact V_iret dX9_take_35 rfl (hQ (((-1), mm)) (zinj h))
  · have h := zneg c h
    refine V_iload_n 12 rfl 2 dX9_take_11 rfl rfl ?_
    obtain ⟨x3, h1, h⟩ := zbd h
    refine V_cS 15 rfl 0 [zI v2] [] dX9_take_12 cs_X9_130 (ctX9_isLetter (Nat.le_refl 0) h1) (Nat.le_trans (by decide) hd) rfl rfl (Nat.le_of_ble_eq_true rfl) zoki rfl ?_
    refine V_if_eq 18 34 rfl dX9_take_15 (by decide) (fun c => ?_) (fun c => ?_)
    · have h := zpos c h
      refine V_iconst 35 rfl (v := (-1)) dX9_take_34 (by decide) ?_
      exact V_iret dX9_take_35 rfl (hQ (((-1), mm)) (zinj h))
    · have h := zneg c h
      refine V_aload_n 19 rfl 0 dX9_take_18 rfl rfl ?_
      obtain ⟨j4, hj, h⟩ := zbd h
      refine V_getm 22 rfl 8 dX9_take_19 fl_X9_16 rfl rfl hj ?_
      refine V_getr 25 rfl 35 j4 dX9_take_22 fl_X9_98 rfl rfl rfl ?_
      refine V_iload_n 26 rfl 1 dX9_take_25 rfl rfl ?_
      obtain ⟨hi, h⟩ := zobd h
      refine V_aald 27 rfl 7 (12 * j4 + zn v1) dX9_take_26 rfl (by decide) (by decide) rfl rfl hi ?_
      refine V_iload_n 28 rfl 2 dX9_take_27 rfl rfl ?_
      obtain ⟨x5, h1, h⟩ := zbd h
      refine V_cV 31 rfl 0 [zI v2] [] dX9_take_28 cv_X9_151 (ctX7_tells (Nat.le_refl 0) h1) (Nat.le_trans (by decide) hd) rfl rfl (Nat.le_of_ble_eq_true rfl) zoki rfl ?_
      refine V_if_ne 34 36 rfl dX9_take_31 (by decide) (fun c => ?_) (fun c => ?_)
      · have h := zneg c h
        refine V_aload_n 37 rfl 0 dX9_take_36 rfl rfl ?_
        refine V_iload_n 38 rfl 1 dX9_take_37 rfl rfl ?_
        obtain ⟨x6, h1, h⟩ := zbd h
        refine V_cV 41 rfl 4 [zI v1] [] dX9_take_38 cv_X9_115 (ctX9_beginAct (Nat.le_refl 4) h1) (Nat.le_trans (by decide) hd) rfl rfl (Nat.le_of_ble_eq_true rfl) zokn rfl ?_
        refine V_aload_n 42 rfl 0 dX9_take_41 rfl rfl ?_
        obtain ⟨j7, hj, h⟩ := zbd h
        refine V_getm 45 rfl 8 dX9_take_42 fl_X9_16 rfl rfl hj ?_
        refine V_getr 48 rfl 35 j7 dX9_take_45 fl_X9_98 rfl rfl rfl ?_
        refine V_iload_n 49 rfl 1 dX9_take_48 rfl rfl ?_
        obtain ⟨hi, h⟩ := zobd h
        refine V_aald 50 rfl 7 (12 * j7 + zn v1) dX9_take_49 rfl (by decide) (by decide) rfl rfl hi ?_
        refine V_iload_n 51 rfl 2 dX9_take_50 rfl rfl ?_
        obtain ⟨x8, h1, h⟩ := zbd h
        refine V_cV 54 rfl 1 [zI v2] [] dX9_take_51 cv_X9_160 (ctX7_forget (Nat.le_refl 1) h1) (Nat.le_trans (by decide) hd) rfl rfl (Nat.le_of_ble_eq_true rfl) zokn rfl ?_
        refine V_aload_n 55 rfl 0 dX9_take_54 rfl rfl ?_
        obtain ⟨j9, hj, h⟩ := zbd h
        refine V_getm 58 rfl 8 dX9_take_55 fl_X9_16 rfl rfl hj ?_
        refine V_getr 61 rfl 35 j9 dX9_take_58 fl_X9_98 rfl rfl rfl ?_
        refine V_iload_n 62 rfl 1 dX9_take_61 rfl rfl ?_
        obtain ⟨hi, h⟩ := zobd h
        refine V_aald 63 rfl 7 (12 * j9 + zn v1) dX9_take_62 rfl (by decide) (by decide) rfl rfl hi ?_
        refine V_geti 66 rfl dX9_take_63 fl_X9_154 rfl ?_
        exact V_iret dX9_take_66 rfl (hQ (((gi x8 7 (12 * j9 + zn v1) 2), x8)) (zinj h))
      · have h := zpos c h
        refine V_iconst 35 rfl (v := (-1)) dX9_take_34 (by decide) ?_
        exact V_iret dX9_take_35 rfl (hQ (((-1), mm)) (zinj h))
theorem ctX9_take {E : zE} {d : Nat} (hd : 5 ≤ d) {v1 : Int32} {v2 : Int32} {mm : zM} {o : (Int32 × zM)} (h : fX9_take v1 v2 mm = some o) : zOC E yX9_take cX9_take 3 (some .int) d [zK 9 0, zI v1, zI v2] mm (some (zI o.1)) o.2 :=
  zCT_of (by decide) (Nat.le_of_ble_eq_true rfl) (zk_k (zk_i (zk_i zk_0))) rfl (wX9_take hd h (fun r e => ⟨by rw [e], by rw [e]⟩))
def fX9_use (v1 : Int32) (v2 : Int32) (mm : zM) : Option (Int32 × zM) :=
  (gr mm 9 2).bind (fun j1 => (fX8_isUnit j1 v1 mm).bind (fun x2 => if x2 = 0 then (some (((-1), mm))) else ((gr mm 9 2).bind (fun j3 => (fX8_isTrait j3 v2 mm).bind (fun x4 => if x4 = 0 then (some (((-1), mm))) else (if v2 < v1 then ((gr mm 9 2).bind (fun j5 => zob (zin v1 12) ((fX5_placeOf ((2 * (12 * j5 + zn v1) + 1)) v2 mm).bind (fun x6 => if x6 = (-1) then (if (gi mm 5 (2 * (12 * j5 + zn v1) + 1) 1) < 4 then ((fX9_beginAct v1 mm).bind (fun x7 => (fX7_addTrait ((12 * j5 + zn v1)) v2 x7).bind (fun x8 => some (((gi x8 5 (2 * (12 * j5 + zn v1) + 1) 1), x8))))) else (some (((-3), mm)))) else (some (((-2), mm))))))) else (some (((-1), mm)))))))))
theorem wX9_use {E : zE} {d : Nat} (hd : 5 ≤ d) {Q : Option zV → zM → Prop} {v1 : Int32} {v2 : Int32} {mm : zM} {o : (Int32 × zM)} (h : fX9_use v1 v2 mm = some o) (hQ : ∀ r, o = r → Q (some (zI r.1)) r.2) : V E RX9 cX9_use 4 (some .int) d Q 0 [some (zK 9 0), some (zI v1), some (zI v2), none] [] mm := by
  unfold fX9_use at h
  refine V_aload_n 1 rfl 0 dX9_use_0 rfl rfl ?_
  obtain ⟨j1, hj, h⟩ := zbd h
  refine V_getm 4 rfl 8 dX9_use_1 fl_X9_16 rfl rfl hj ?_
  refine V_iload_n 5 rfl 1 dX9_use_4 rfl rfl ?_
  obtain ⟨x2, h1, h⟩ := zbd h
  refine V_cV 8 rfl 0 [zI v1] [] dX9_use_5 cv_X9_127 (ctX8_isUnit (Nat.le_refl 0) h1) (Nat.le_trans (by decide) hd) rfl rfl (Nat.le_of_ble_eq_true rfl) zoki rfl ?_
  refine V_if_eq 11 27 rfl dX9_use_8 (by decide) (fun c => ?_) (fun c => ?_)
  · have h := zpos c h
    refine V_iconst 28 rfl (v := (-1)) dX9_use_27 (by decide) ?_
    exact V_iret dX9_use_28 rfl (hQ (((-1), mm)) (zinj h))
  · have h := zneg c h
    refine V_aload_n 12 rfl 0 dX9_use_11 rfl rfl ?_
    obtain ⟨j3, hj, h⟩ := zbd h
    refine V_getm 15 rfl 8 dX9_use_12 fl_X9_16 rfl rfl hj ?_
    refine V_iload_n 16 rfl 2 dX9_use_15 rfl rfl ?_
    obtain ⟨x4, h1, h⟩ := zbd h
    refine V_cV 19 rfl 1 [zI v2] [] dX9_use_16 cv_X9_163 (ctX8_isTrait (Nat.le_refl 1) h1) (Nat.le_trans (by decide) hd) rfl rfl (Nat.le_of_ble_eq_true rfl) zoki rfl ?_
    refine V_if_eq 22 27 rfl dX9_use_19 (by decide) (fun c => ?_) (fun c => ?_)
    · have h := zpos c h
      refine V_iconst 28 rfl (v := (-1)) dX9_use_27 (by decide) ?_
      exact V_iret dX9_use_28 rfl (hQ (((-1), mm)) (zinj h))
    · have h := zneg c h
      refine V_iload_n 23 rfl 2 dX9_use_22 rfl rfl ?_
      refine V_iload_n 24 rfl 1 dX9_use_23 rfl rfl ?_
      refine V_icmp_lt 27 29 rfl dX9_use_24 (by decide) (fun c => ?_) (fun c => ?_)
      · have h := zpos c h
        refine V_aload_n 30 rfl 0 dX9_use_29 rfl rfl ?_
        obtain ⟨j5, hj, h⟩ := zbd h
        refine V_getm 33 rfl 8 dX9_use_30 fl_X9_16 rfl rfl hj ?_
        refine V_getr 36 rfl 35 j5 dX9_use_33 fl_X9_98 rfl rfl rfl ?_
        refine V_iload_n 37 rfl 1 dX9_use_36 rfl rfl ?_
        obtain ⟨hi, h⟩ := zobd h
        refine V_aald 38 rfl 7 (12 * j5 + zn v1) dX9_use_37 rfl (by decide) (by decide) rfl rfl hi ?_
        refine V_astore_n 39 rfl 3 (L' := [some (zK 9 0), some (zI v1), some (zI v2), some (zK 7 (12 * j5 + zn v1))]) dX9_use_38 rfl (by decide) rfl ?_
        refine V_aload_n 40 rfl 3 dX9_use_39 rfl rfl ?_
        refine V_getr 43 rfl 5 (2 * (12 * j5 + zn v1) + 1) dX9_use_40 fl_X9_166 rfl rfl rfl ?_
        refine V_iload_n 44 rfl 2 dX9_use_43 rfl rfl ?_
        obtain ⟨x6, h1, h⟩ := zbd h
        refine V_cV 47 rfl 0 [zI v2] [] dX9_use_44 cv_X9_108 (ctX5_placeOf (Nat.le_refl 0) h1) (Nat.le_trans (by decide) hd) rfl rfl (Nat.le_of_ble_eq_true rfl) zoki rfl ?_
        refine V_iconst 48 rfl (v := (-1)) dX9_use_47 (by decide) ?_
        refine V_icmp_eq 51 54 rfl dX9_use_48 (by decide) (fun c => ?_) (fun c => ?_)
        · have h := zpos c h
          refine V_aload_n 55 rfl 3 dX9_use_54 rfl rfl ?_
          refine V_getr 58 rfl 5 (2 * (12 * j5 + zn v1) + 1) dX9_use_55 fl_X9_166 rfl rfl rfl ?_
          refine V_geti 61 rfl dX9_use_58 fl_X9_114 rfl ?_
          refine V_iconst 62 rfl (v := 4) dX9_use_61 (by decide) ?_
          refine V_icmp_lt 65 68 rfl dX9_use_62 (by decide) (fun c => ?_) (fun c => ?_)
          · have h := zpos c h
            refine V_aload_n 69 rfl 0 dX9_use_68 rfl rfl ?_
            refine V_iload_n 70 rfl 1 dX9_use_69 rfl rfl ?_
            obtain ⟨x7, h1, h⟩ := zbd h
            refine V_cV 73 rfl 4 [zI v1] [] dX9_use_70 cv_X9_115 (ctX9_beginAct (Nat.le_refl 4) h1) (Nat.le_trans (by decide) hd) rfl rfl (Nat.le_of_ble_eq_true rfl) zokn rfl ?_
            refine V_aload_n 74 rfl 3 dX9_use_73 rfl rfl ?_
            refine V_iload_n 75 rfl 2 dX9_use_74 rfl rfl ?_
            obtain ⟨x8, h1, h⟩ := zbd h
            refine V_cV 78 rfl 1 [zI v2] [] dX9_use_75 cv_X9_169 (ctX7_addTrait (Nat.le_refl 1) h1) (Nat.le_trans (by decide) hd) rfl rfl (Nat.le_of_ble_eq_true rfl) zokn rfl ?_
            refine V_aload_n 79 rfl 3 dX9_use_78 rfl rfl ?_
            refine V_getr 82 rfl 5 (2 * (12 * j5 + zn v1) + 1) dX9_use_79 fl_X9_166 rfl rfl rfl ?_
            refine V_geti 85 rfl dX9_use_82 fl_X9_114 rfl ?_
            exact V_iret dX9_use_85 rfl (hQ (((gi x8 5 (2 * (12 * j5 + zn v1) + 1) 1), x8)) (zinj h))
          · have h := zneg c h
            refine V_bipush 67 rfl (v := (-3)) dX9_use_65 (by decide) ?_
            exact V_iret dX9_use_67 rfl (hQ (((-3), mm)) (zinj h))
        · have h := zneg c h
          refine V_bipush 53 rfl (v := (-2)) dX9_use_51 (by decide) ?_
          exact V_iret dX9_use_53 rfl (hQ (((-2), mm)) (zinj h))
      · have h := zneg c h
        refine V_iconst 28 rfl (v := (-1)) dX9_use_27 (by decide) ?_
        exact V_iret dX9_use_28 rfl (hQ (((-1), mm)) (zinj h))
theorem ctX9_use {E : zE} {d : Nat} (hd : 5 ≤ d) {v1 : Int32} {v2 : Int32} {mm : zM} {o : (Int32 × zM)} (h : fX9_use v1 v2 mm = some o) : zOC E yX9_use cX9_use 4 (some .int) d [zK 9 0, zI v1, zI v2] mm (some (zI o.1)) o.2 :=
  zCT_of (by decide) (Nat.le_of_ble_eq_true rfl) (zk_k (zk_i (zk_i zk_0))) rfl (wX9_use hd h (fun r e => ⟨by rw [e], by rw [e]⟩))
def fX7_letterThere (v0 : Nat) (v1 : Int32) (v2 : Int32) (mm : zM) : Option Int32 :=
  zob (zin ((((v1 * 26)) + v2)) 104) (some ((gi mm 34 v0 (zn ((((v1 * 26)) + v2))))))
theorem wX7_letterThere {E : zE} {d : Nat} (hd : 0 ≤ d) {Q : Option zV → zM → Prop} {v0 : Nat} {v1 : Int32} {v2 : Int32} {mm : zM} {o : Int32} (h : fX7_letterThere v0 v1 v2 mm = some o) (hQ : ∀ r, o = r → Q (some (zI r)) mm) : V E RX7 cX7_letterThere 3 (some .int) d Q 0 [some (zK 7 v0), some (zI v1), some (zI v2)] [] mm := by
  unfold fX7_letterThere at h
  refine V_aload_n 1 rfl 0 dX7_letterThere_0 rfl rfl ?_
  refine V_getr 4 rfl 34 v0 dX7_letterThere_1 fl_X7_31 rfl rfl rfl ?_
  refine V_iload_n 5 rfl 1 dX7_letterThere_4 rfl rfl ?_
  refine V_bipush 7 rfl (v := 26) dX7_letterThere_5 (by decide) ?_
  refine V_imul 8 rfl dX7_letterThere_7 ?_
  refine V_iload_n 9 rfl 2 dX7_letterThere_8 rfl rfl ?_
  refine V_iadd 10 rfl dX7_letterThere_9 ?_
  obtain ⟨hi, h⟩ := zobd h
  refine V_iald 11 rfl dX7_letterThere_10 rfl hi ?_
  exact V_iret dX7_letterThere_11 rfl (hQ ((gi mm 34 v0 (zn ((((v1 * 26)) + v2))))) (zinj h))
theorem ctX7_letterThere {E : zE} {d : Nat} (hd : 0 ≤ d) {v0 : Nat} {v1 : Int32} {v2 : Int32} {mm : zM} {o : Int32} (h : fX7_letterThere v0 v1 v2 mm = some o) : zOC E yX7_letterThere cX7_letterThere 3 (some .int) d [zK 7 v0, zI v1, zI v2] mm (some (zI o)) mm :=
  zCT_of (by decide) (Nat.le_of_ble_eq_true rfl) (zk_k (zk_i (zk_i zk_0))) rfl (wX7_letterThere hd h (fun r e => ⟨by rw [e], rfl⟩))
def fX9_change_J106 (v1 : Int32) (v3 : Int32) (v4 : Int32) (v5 : Nat) (v6 : Int32) (mm : zM) : Option (Int32 × zM) :=
  (fX9_beginAct v1 mm).bind (fun x7 => (fX7_setLetterThere v5 v6 v3 v4 x7).bind (fun x8 => zob (zin v6 4) (some (((gi x8 31 v5 (zn v6)), x8)))))
def fX9_change_J34 (v1 : Int32) (v2 : Int32) (v3 : Int32) (v4 : Int32) (mm : zM) : Option (Int32 × zM) :=
  (gr mm 9 2).bind (fun j4 => zob (zin v1 12) ((fX5_placeOf ((2 * (12 * j4 + zn v1) + 1)) v2 mm).bind (fun x5 => if x5 = (-1) then (some (((-1), mm))) else ((fX7_letterThere ((12 * j4 + zn v1)) x5 v3 mm).bind (fun x6 => if x6 = v4 then (some (((-2), mm))) else (if x6 = v3 then (zob (zin x5 4) (if (gi mm 31 (12 * j4 + zn v1) (zn x5)) < 6 then (fX9_change_J106 v1 v3 v4 ((12 * j4 + zn v1)) x5 mm) else (some (((-3), mm))))) else (fX9_change_J106 v1 v3 v4 ((12 * j4 + zn v1)) x5 mm)))))))
def fX9_change (v1 : Int32) (v2 : Int32) (v3 : Int32) (v4 : Int32) (mm : zM) : Option (Int32 × zM) :=
  (gr mm 9 2).bind (fun j1 => (fX8_isUnit j1 v1 mm).bind (fun x2 => if x2 = 0 then (some (((-1), mm))) else ((fX9_isLetter v3 mm).bind (fun x3 => if x3 = 0 then (some (((-1), mm))) else (if v4 = (-1) then (fX9_change_J34 v1 v2 v3 v4 mm) else ((fX9_isLetter v4 mm).bind (fun x9 => if x9 = 0 then (some (((-1), mm))) else (fX9_change_J34 v1 v2 v3 v4 mm))))))))
theorem wX9_change_J106 {E : zE} {d : Nat} (hd : 5 ≤ d) {Q : Option zV → zM → Prop} {v1 : Int32} {v3 : Int32} {v4 : Int32} {v5 : Nat} {v6 : Int32} {mm : zM} {o : (Int32 × zM)} (h : fX9_change_J106 v1 v3 v4 v5 v6 mm = some o) (hQ : ∀ r, o = r → Q (some (zI r.1)) r.2) : V E RX9 cX9_change 8 (some .int) d Q 106 [some (zK 9 0), some (zI v1), none, some (zI v3), some (zI v4), some (zK 7 v5), some (zI v6), none] [] mm := by
  unfold fX9_change_J106 at h
  refine V_aload_n 107 rfl 0 dX9_change_106 rfl rfl ?_
  refine V_iload_n 108 rfl 1 dX9_change_107 rfl rfl ?_
  obtain ⟨x7, h1, h⟩ := zbd h
  refine V_cV 111 rfl 4 [zI v1] [] dX9_change_108 cv_X9_115 (ctX9_beginAct (Nat.le_refl 4) h1) (Nat.le_trans (by decide) hd) rfl rfl (Nat.le_of_ble_eq_true rfl) zokn rfl ?_
  refine V_aload 113 rfl dX9_change_111 rfl ?_
  refine V_iload 115 rfl dX9_change_113 rfl ?_
  refine V_iload_n 116 rfl 3 dX9_change_115 rfl rfl ?_
  refine V_iload 118 rfl dX9_change_116 rfl ?_
  obtain ⟨x8, h1, h⟩ := zbd h
  refine V_cV 121 rfl 0 [zI v6, zI v3, zI v4] [] dX9_change_118 cv_X9_178 (ctX7_setLetterThere (Nat.le_refl 0) h1) (Nat.le_trans (by decide) hd) rfl rfl (Nat.le_of_ble_eq_true rfl) zokn rfl ?_
  refine V_aload 123 rfl dX9_change_121 rfl ?_
  refine V_getr 126 rfl 31 v5 dX9_change_123 fl_X9_175 rfl rfl rfl ?_
  refine V_iload 128 rfl dX9_change_126 rfl ?_
  obtain ⟨hi, h⟩ := zobd h
  refine V_iald 129 rfl dX9_change_128 rfl hi ?_
  exact V_iret dX9_change_129 rfl (hQ (((gi x8 31 v5 (zn v6)), x8)) (zinj h))
theorem wX9_change_J34 {E : zE} {d : Nat} (hd : 5 ≤ d) {Q : Option zV → zM → Prop} {v1 : Int32} {v2 : Int32} {v3 : Int32} {v4 : Int32} {mm : zM} {o : (Int32 × zM)} (h : fX9_change_J34 v1 v2 v3 v4 mm = some o) (hQ : ∀ r, o = r → Q (some (zI r.1)) r.2) : V E RX9 cX9_change 8 (some .int) d Q 34 [some (zK 9 0), some (zI v1), some (zI v2), some (zI v3), some (zI v4), none, none, none] [] mm := by
  unfold fX9_change_J34 at h
  refine V_aload_n 35 rfl 0 dX9_change_34 rfl rfl ?_
  obtain ⟨j4, hj, h⟩ := zbd h
  refine V_getm 38 rfl 8 dX9_change_35 fl_X9_16 rfl rfl hj ?_
  refine V_getr 41 rfl 35 j4 dX9_change_38 fl_X9_98 rfl rfl rfl ?_
  refine V_iload_n 42 rfl 1 dX9_change_41 rfl rfl ?_
  obtain ⟨hi, h⟩ := zobd h
  refine V_aald 43 rfl 7 (12 * j4 + zn v1) dX9_change_42 rfl (by decide) (by decide) rfl rfl hi ?_
  refine V_astore 45 rfl (L' := [some (zK 9 0), some (zI v1), some (zI v2), some (zI v3), some (zI v4), some (zK 7 (12 * j4 + zn v1)), none, none]) dX9_change_43 (by decide) rfl ?_
  refine V_aload 47 rfl dX9_change_45 rfl ?_
  refine V_getr 50 rfl 5 (2 * (12 * j4 + zn v1) + 1) dX9_change_47 fl_X9_166 rfl rfl rfl ?_
  refine V_iload_n 51 rfl 2 dX9_change_50 rfl rfl ?_
  obtain ⟨x5, h1, h⟩ := zbd h
  refine V_cV 54 rfl 0 [zI v2] [] dX9_change_51 cv_X9_108 (ctX5_placeOf (Nat.le_refl 0) h1) (Nat.le_trans (by decide) hd) rfl rfl (Nat.le_of_ble_eq_true rfl) zoki rfl ?_
  refine V_istore 56 rfl (L' := [some (zK 9 0), some (zI v1), some (zI v2), some (zI v3), some (zI v4), some (zK 7 (12 * j4 + zn v1)), some (zI x5), none]) dX9_change_54 (by decide) rfl ?_
  refine V_iload 58 rfl dX9_change_56 rfl ?_
  refine V_iconst 59 rfl (v := (-1)) dX9_change_58 (by decide) ?_
  refine V_icmp_ne 62 64 rfl dX9_change_59 (by decide) (fun c => ?_) (fun c => ?_)
  · have h := zneg c h
    refine V_aload 66 rfl dX9_change_64 rfl ?_
    refine V_iload 68 rfl dX9_change_66 rfl ?_
    refine V_iload_n 69 rfl 3 dX9_change_68 rfl rfl ?_
    obtain ⟨x6, h1, h⟩ := zbd h
    refine V_cV 72 rfl 0 [zI x5, zI v3] [] dX9_change_69 cv_X9_172 (ctX7_letterThere (Nat.le_refl 0) h1) (Nat.le_trans (by decide) hd) rfl rfl (Nat.le_of_ble_eq_true rfl) zoki rfl ?_
    refine V_istore 74 rfl (L' := [some (zK 9 0), some (zI v1), some (zI v2), some (zI v3), some (zI v4), some (zK 7 (12 * j4 + zn v1)), some (zI x5), some (zI x6)]) dX9_change_72 (by decide) rfl ?_
    refine V_iload 76 rfl dX9_change_74 rfl ?_
    refine V_iload 78 rfl dX9_change_76 rfl ?_
    refine V_icmp_ne 81 84 rfl dX9_change_78 (by decide) (fun c => ?_) (fun c => ?_)
    · have h := zneg c h
      refine V_iload 86 rfl dX9_change_84 rfl ?_
      refine V_iload_n 87 rfl 3 dX9_change_86 rfl rfl ?_
      refine V_icmp_ne 90 106 rfl dX9_change_87 (by decide) (fun c => ?_) (fun c => ?_)
      · have h := zneg c h
        exact V_w (zsub_s (zsub_s (zsub_n (zsub_s (zsub_s (zsub_s (zsub_s (zsub_n zsub_0)))))))) (wX9_change_J106 hd h hQ)
      · have h := zpos c h
        refine V_aload 92 rfl dX9_change_90 rfl ?_
        refine V_getr 95 rfl 31 (12 * j4 + zn v1) dX9_change_92 fl_X9_175 rfl rfl rfl ?_
        refine V_iload 97 rfl dX9_change_95 rfl ?_
        obtain ⟨hi, h⟩ := zobd h
        refine V_iald 98 rfl dX9_change_97 rfl hi ?_
        refine V_bipush 100 rfl (v := 6) dX9_change_98 (by decide) ?_
        refine V_icmp_lt 103 106 rfl dX9_change_100 (by decide) (fun c => ?_) (fun c => ?_)
        · have h := zpos c h
          exact V_w (zsub_s (zsub_s (zsub_n (zsub_s (zsub_s (zsub_s (zsub_s (zsub_n zsub_0)))))))) (wX9_change_J106 hd h hQ)
        · have h := zneg c h
          refine V_bipush 105 rfl (v := (-3)) dX9_change_103 (by decide) ?_
          exact V_iret dX9_change_105 rfl (hQ (((-3), mm)) (zinj h))
    · have h := zpos c h
      refine V_bipush 83 rfl (v := (-2)) dX9_change_81 (by decide) ?_
      exact V_iret dX9_change_83 rfl (hQ (((-2), mm)) (zinj h))
  · have h := zpos c h
    refine V_iconst 63 rfl (v := (-1)) dX9_change_62 (by decide) ?_
    exact V_iret dX9_change_63 rfl (hQ (((-1), mm)) (zinj h))
theorem wX9_change {E : zE} {d : Nat} (hd : 5 ≤ d) {Q : Option zV → zM → Prop} {v1 : Int32} {v2 : Int32} {v3 : Int32} {v4 : Int32} {mm : zM} {o : (Int32 × zM)} (h : fX9_change v1 v2 v3 v4 mm = some o) (hQ : ∀ r, o = r → Q (some (zI r.1)) r.2) : V E RX9 cX9_change 8 (some .int) d Q 0 [some (zK 9 0), some (zI v1), some (zI v2), some (zI v3), some (zI v4), none, none, none] [] mm := by
  unfold fX9_change at h
  refine V_aload_n 1 rfl 0 dX9_change_0 rfl rfl ?_
  obtain ⟨j1, hj, h⟩ := zbd h
  refine V_getm 4 rfl 8 dX9_change_1 fl_X9_16 rfl rfl hj ?_
  refine V_iload_n 5 rfl 1 dX9_change_4 rfl rfl ?_
  obtain ⟨x2, h1, h⟩ := zbd h
  refine V_cV 8 rfl 0 [zI v1] [] dX9_change_5 cv_X9_127 (ctX8_isUnit (Nat.le_refl 0) h1) (Nat.le_trans (by decide) hd) rfl rfl (Nat.le_of_ble_eq_true rfl) zoki rfl ?_
  refine V_if_eq 11 32 rfl dX9_change_8 (by decide) (fun c => ?_) (fun c => ?_)
  · have h := zpos c h
    refine V_iconst 33 rfl (v := (-1)) dX9_change_32 (by decide) ?_
    exact V_iret dX9_change_33 rfl (hQ (((-1), mm)) (zinj h))
  · have h := zneg c h
    refine V_iload_n 12 rfl 3 dX9_change_11 rfl rfl ?_
    obtain ⟨x3, h1, h⟩ := zbd h
    refine V_cS 15 rfl 0 [zI v3] [] dX9_change_12 cs_X9_130 (ctX9_isLetter (Nat.le_refl 0) h1) (Nat.le_trans (by decide) hd) rfl rfl (Nat.le_of_ble_eq_true rfl) zoki rfl ?_
    refine V_if_eq 18 32 rfl dX9_change_15 (by decide) (fun c => ?_) (fun c => ?_)
    · have h := zpos c h
      refine V_iconst 33 rfl (v := (-1)) dX9_change_32 (by decide) ?_
      exact V_iret dX9_change_33 rfl (hQ (((-1), mm)) (zinj h))
    · have h := zneg c h
      refine V_iload 20 rfl dX9_change_18 rfl ?_
      refine V_iconst 21 rfl (v := (-1)) dX9_change_20 (by decide) ?_
      refine V_icmp_eq 24 34 rfl dX9_change_21 (by decide) (fun c => ?_) (fun c => ?_)
      · have h := zpos c h
        exact wX9_change_J34 hd h hQ
      · have h := zneg c h
        refine V_iload 26 rfl dX9_change_24 rfl ?_
        obtain ⟨x9, h1, h⟩ := zbd h
        refine V_cS 29 rfl 0 [zI v4] [] dX9_change_26 cs_X9_130 (ctX9_isLetter (Nat.le_refl 0) h1) (Nat.le_trans (by decide) hd) rfl rfl (Nat.le_of_ble_eq_true rfl) zoki rfl ?_
        refine V_if_ne 32 34 rfl dX9_change_29 (by decide) (fun c => ?_) (fun c => ?_)
        · have h := zneg c h
          exact wX9_change_J34 hd h hQ
        · have h := zpos c h
          refine V_iconst 33 rfl (v := (-1)) dX9_change_32 (by decide) ?_
          exact V_iret dX9_change_33 rfl (hQ (((-1), mm)) (zinj h))
theorem ctX9_change {E : zE} {d : Nat} (hd : 5 ≤ d) {v1 : Int32} {v2 : Int32} {v3 : Int32} {v4 : Int32} {mm : zM} {o : (Int32 × zM)} (h : fX9_change v1 v2 v3 v4 mm = some o) : zOC E yX9_change cX9_change 8 (some .int) d [zK 9 0, zI v1, zI v2, zI v3, zI v4] mm (some (zI o.1)) o.2 :=
  zCT_of (by decide) (Nat.le_of_ble_eq_true rfl) (zk_k (zk_i (zk_i (zk_i (zk_i zk_0))))) rfl (wX9_change hd h (fun r e => ⟨by rw [e], by rw [e]⟩))
def fX1_restoreLast (v1 : Nat) (mm : zM) : Option zM :=
  zob (zin ((gi ((wi ((wi mm 1 0 2 ((((((((gi mm 1 0 2)) + 10)) - 1)) - ((((((gi mm 1 0 2)) + 10)) - 1)) / 10 * 10)))) 1 0 3 ((((gi ((wi mm 1 0 2 ((((((((gi mm 1 0 2)) + 10)) - 1)) - ((((((gi mm 1 0 2)) + 10)) - 1)) / 10 * 10)))) 1 0 3)) - 1)))) 1 0 2)) 10) (zob (zin ((gi ((wi ((wi mm 1 0 2 ((((((((gi mm 1 0 2)) + 10)) - 1)) - ((((((gi mm 1 0 2)) + 10)) - 1)) / 10 * 10)))) 1 0 3 ((((gi ((wi mm 1 0 2 ((((((((gi mm 1 0 2)) + 10)) - 1)) - ((((((gi mm 1 0 2)) + 10)) - 1)) / 10 * 10)))) 1 0 3)) - 1)))) 15 0 (zn ((gi ((wi ((wi mm 1 0 2 ((((((((gi mm 1 0 2)) + 10)) - 1)) - ((((((gi mm 1 0 2)) + 10)) - 1)) / 10 * 10)))) 1 0 3 ((((gi ((wi mm 1 0 2 ((((((((gi mm 1 0 2)) + 10)) - 1)) - ((((((gi mm 1 0 2)) + 10)) - 1)) / 10 * 10)))) 1 0 3)) - 1)))) 1 0 2))))) 12) (zob (zin ((gi ((wi ((wi mm 1 0 2 ((((((((gi mm 1 0 2)) + 10)) - 1)) - ((((((gi mm 1 0 2)) + 10)) - 1)) / 10 * 10)))) 1 0 3 ((((gi ((wi mm 1 0 2 ((((((((gi mm 1 0 2)) + 10)) - 1)) - ((((((gi mm 1 0 2)) + 10)) - 1)) / 10 * 10)))) 1 0 3)) - 1)))) 1 0 2)) 10) ((fX7_copyFrom ((12 * v1 + zn ((gi ((wi ((wi mm 1 0 2 ((((((((gi mm 1 0 2)) + 10)) - 1)) - ((((((gi mm 1 0 2)) + 10)) - 1)) / 10 * 10)))) 1 0 3 ((((gi ((wi mm 1 0 2 ((((((((gi mm 1 0 2)) + 10)) - 1)) - ((((((gi mm 1 0 2)) + 10)) - 1)) / 10 * 10)))) 1 0 3)) - 1)))) 15 0 (zn ((gi ((wi ((wi mm 1 0 2 ((((((((gi mm 1 0 2)) + 10)) - 1)) - ((((((gi mm 1 0 2)) + 10)) - 1)) / 10 * 10)))) 1 0 3 ((((gi ((wi mm 1 0 2 ((((((((gi mm 1 0 2)) + 10)) - 1)) - ((((((gi mm 1 0 2)) + 10)) - 1)) / 10 * 10)))) 1 0 3)) - 1)))) 1 0 2))))))) ((48 + zn ((gi ((wi ((wi mm 1 0 2 ((((((((gi mm 1 0 2)) + 10)) - 1)) - ((((((gi mm 1 0 2)) + 10)) - 1)) / 10 * 10)))) 1 0 3 ((((gi ((wi mm 1 0 2 ((((((((gi mm 1 0 2)) + 10)) - 1)) - ((((((gi mm 1 0 2)) + 10)) - 1)) / 10 * 10)))) 1 0 3)) - 1)))) 1 0 2)))) ((wi ((wi mm 1 0 2 ((((((((gi mm 1 0 2)) + 10)) - 1)) - ((((((gi mm 1 0 2)) + 10)) - 1)) / 10 * 10)))) 1 0 3 ((((gi ((wi mm 1 0 2 ((((((((gi mm 1 0 2)) + 10)) - 1)) - ((((((gi mm 1 0 2)) + 10)) - 1)) / 10 * 10)))) 1 0 3)) - 1))))).bind (fun x1 => some x1))))
theorem wX1_restoreLast {E : zE} {d : Nat} (hd : 3 ≤ d) {Q : Option zV → zM → Prop} {v1 : Nat} {mm : zM} {o : zM} (h : fX1_restoreLast v1 mm = some o) (hQ : ∀ r, o = r → Q none r) : V E RX1 cX1_restoreLast 2 none d Q 0 [some (zK 1 0), some (zK 8 v1)] [] mm := by
  unfold fX1_restoreLast at h
  refine V_aload_n 1 rfl 0 dX1_restoreLast_0 rfl rfl ?_
  refine V_aload_n 2 rfl 0 dX1_restoreLast_1 rfl rfl ?_
  refine V_geti 5 rfl dX1_restoreLast_2 fl_X1_26 rfl ?_
  refine V_bipush 7 rfl (v := 10) dX1_restoreLast_5 (by decide) ?_
  refine V_iadd 8 rfl dX1_restoreLast_7 ?_
  refine V_iconst 9 rfl (v := 1) dX1_restoreLast_8 (by decide) ?_
  refine V_isub 10 rfl dX1_restoreLast_9 ?_
  refine V_bipush 12 rfl (v := 10) dX1_restoreLast_10 (by decide) ?_
  refine V_irem 13 rfl dX1_restoreLast_12 (by decide) ?_
  refine V_puti 16 rfl dX1_restoreLast_13 fw_X1_26 rfl rfl rfl ?_
  refine V_aload_n 17 rfl 0 dX1_restoreLast_16 rfl rfl ?_
  refine V_dup 18 rfl dX1_restoreLast_17 rfl ?_
  refine V_geti 21 rfl dX1_restoreLast_18 fl_X1_22 rfl ?_
  refine V_iconst 22 rfl (v := 1) dX1_restoreLast_21 (by decide) ?_
  refine V_isub 23 rfl dX1_restoreLast_22 ?_
  refine V_puti 26 rfl dX1_restoreLast_23 fw_X1_22 rfl rfl rfl ?_
  refine V_aload_n 27 rfl 1 dX1_restoreLast_26 rfl rfl ?_
  refine V_getr 30 rfl 35 v1 dX1_restoreLast_27 fl_X1_39 rfl rfl rfl ?_
  refine V_aload_n 31 rfl 0 dX1_restoreLast_30 rfl rfl ?_
  refine V_getr 34 rfl 15 0 dX1_restoreLast_31 fl_X1_17 rfl rfl rfl ?_
  refine V_aload_n 35 rfl 0 dX1_restoreLast_34 rfl rfl ?_
  refine V_geti 38 rfl dX1_restoreLast_35 fl_X1_26 rfl ?_
  obtain ⟨hi, h⟩ := zobd h
  refine V_iald 39 rfl dX1_restoreLast_38 rfl hi ?_
  obtain ⟨hi, h⟩ := zobd h
  refine V_aald 40 rfl 7 (12 * v1 + zn ((gi ((wi ((wi mm 1 0 2 ((((((((gi mm 1 0 2)) + 10)) - 1)) - ((((((gi mm 1 0 2)) + 10)) - 1)) / 10 * 10)))) 1 0 3 ((((gi ((wi mm 1 0 2 ((((((((gi mm 1 0 2)) + 10)) - 1)) - ((((((gi mm 1 0 2)) + 10)) - 1)) / 10 * 10)))) 1 0 3)) - 1)))) 15 0 (zn ((gi ((wi ((wi mm 1 0 2 ((((((((gi mm 1 0 2)) + 10)) - 1)) - ((((((gi mm 1 0 2)) + 10)) - 1)) / 10 * 10)))) 1 0 3 ((((gi ((wi mm 1 0 2 ((((((((gi mm 1 0 2)) + 10)) - 1)) - ((((((gi mm 1 0 2)) + 10)) - 1)) / 10 * 10)))) 1 0 3)) - 1)))) 1 0 2)))))) dX1_restoreLast_39 rfl (by decide) (by decide) rfl rfl hi ?_
  refine V_aload_n 41 rfl 0 dX1_restoreLast_40 rfl rfl ?_
  refine V_getr 44 rfl 14 0 dX1_restoreLast_41 fl_X1_11 rfl rfl rfl ?_
  refine V_aload_n 45 rfl 0 dX1_restoreLast_44 rfl rfl ?_
  refine V_geti 48 rfl dX1_restoreLast_45 fl_X1_26 rfl ?_
  obtain ⟨hi, h⟩ := zobd h
  refine V_aald 49 rfl 7 (48 + zn ((gi ((wi ((wi mm 1 0 2 ((((((((gi mm 1 0 2)) + 10)) - 1)) - ((((((gi mm 1 0 2)) + 10)) - 1)) / 10 * 10)))) 1 0 3 ((((gi ((wi mm 1 0 2 ((((((((gi mm 1 0 2)) + 10)) - 1)) - ((((((gi mm 1 0 2)) + 10)) - 1)) / 10 * 10)))) 1 0 3)) - 1)))) 1 0 2))) dX1_restoreLast_48 rfl (by decide) (by decide) rfl rfl hi ?_
  obtain ⟨x1, h1, h⟩ := zbd h
  refine V_cV 52 rfl 2 [zK 7 (48 + zn ((gi ((wi ((wi mm 1 0 2 ((((((((gi mm 1 0 2)) + 10)) - 1)) - ((((((gi mm 1 0 2)) + 10)) - 1)) / 10 * 10)))) 1 0 3 ((((gi ((wi mm 1 0 2 ((((((((gi mm 1 0 2)) + 10)) - 1)) - ((((((gi mm 1 0 2)) + 10)) - 1)) / 10 * 10)))) 1 0 3)) - 1)))) 1 0 2)))] [] dX1_restoreLast_49 cv_X1_29 (ctX7_copyFrom (Nat.le_refl 2) h1) (Nat.le_trans (by decide) hd) rfl rfl (Nat.le_of_ble_eq_true rfl) zokn rfl ?_
  exact V_vret dX1_restoreLast_52 rfl (hQ x1 (zinj h))
theorem ctX1_restoreLast {E : zE} {d : Nat} (hd : 3 ≤ d) {v1 : Nat} {mm : zM} {o : zM} (h : fX1_restoreLast v1 mm = some o) : zOC E yX1_restoreLast cX1_restoreLast 2 none d [zK 1 0, zK 8 v1] mm none o :=
  zCT_of (by decide) (Nat.le_of_ble_eq_true rfl) (zk_k (zk_k zk_0)) rfl (wX1_restoreLast hd h (fun r e => ⟨rfl, by rw [e]⟩))
def fX9_undo (mm : zM) : Option (Int32 × zM) :=
  if (gi mm 1 0 3) = 0 then (some (((-1), mm))) else ((gr mm 9 2).bind (fun j1 => (fX1_restoreLast j1 mm).bind (fun x2 => some (((gi ((wi x2 9 0 12 1)) 1 0 3), (wi x2 9 0 12 1))))))
theorem wX9_undo {E : zE} {d : Nat} (hd : 4 ≤ d) {Q : Option zV → zM → Prop} {mm : zM} {o : (Int32 × zM)} (h : fX9_undo mm = some o) (hQ : ∀ r, o = r → Q (some (zI r.1)) r.2) : V E RX9 cX9_undo 1 (some .int) d Q 0 [some (zK 9 0)] [] mm := by
  unfold fX9_undo at h
  refine V_aload_n 1 rfl 0 dX9_undo_0 rfl rfl ?_
  refine V_getr 4 rfl 1 0 dX9_undo_1 fl_X9_37 rfl rfl rfl ?_
  refine V_geti 7 rfl dX9_undo_4 fl_X9_186 rfl ?_
  refine V_if_ne 10 12 rfl dX9_undo_7 (by decide) (fun c => ?_) (fun c => ?_)
  · have h := zneg c h
    refine V_aload_n 13 rfl 0 dX9_undo_12 rfl rfl ?_
    refine V_getr 16 rfl 1 0 dX9_undo_13 fl_X9_37 rfl rfl rfl ?_
    refine V_aload_n 17 rfl 0 dX9_undo_16 rfl rfl ?_
    obtain ⟨j1, hj, h⟩ := zbd h
    refine V_getm 20 rfl 8 dX9_undo_17 fl_X9_16 rfl rfl hj ?_
    obtain ⟨x2, h1, h⟩ := zbd h
    refine V_cV 23 rfl 3 [zK 8 j1] [] dX9_undo_20 cv_X9_187 (ctX1_restoreLast (Nat.le_refl 3) h1) (Nat.le_trans (by decide) hd) rfl rfl (Nat.le_of_ble_eq_true rfl) zokn rfl ?_
    refine V_aload_n 24 rfl 0 dX9_undo_23 rfl rfl ?_
    refine V_iconst 25 rfl (v := 1) dX9_undo_24 (by decide) ?_
    refine V_puti 28 rfl dX9_undo_25 fw_X9_90 rfl rfl rfl ?_
    refine V_aload_n 29 rfl 0 dX9_undo_28 rfl rfl ?_
    refine V_getr 32 rfl 1 0 dX9_undo_29 fl_X9_37 rfl rfl rfl ?_
    refine V_geti 35 rfl dX9_undo_32 fl_X9_186 rfl ?_
    exact V_iret dX9_undo_35 rfl (hQ (((gi ((wi x2 9 0 12 1)) 1 0 3), (wi x2 9 0 12 1))) (zinj h))
  · have h := zpos c h
    refine V_iconst 11 rfl (v := (-1)) dX9_undo_10 (by decide) ?_
    exact V_iret dX9_undo_11 rfl (hQ (((-1), mm)) (zinj h))
theorem ctX9_undo {E : zE} {d : Nat} (hd : 4 ≤ d) {mm : zM} {o : (Int32 × zM)} (h : fX9_undo mm = some o) : zOC E yX9_undo cX9_undo 1 (some .int) d [zK 9 0] mm (some (zI o.1)) o.2 :=
  zCT_of (by decide) (Nat.le_of_ble_eq_true rfl) (zk_k zk_0) rfl (wX9_undo hd h (fun r e => ⟨by rw [e], by rw [e]⟩))
def fX8_copyFrom_L10 (v0 : Nat) (v1 : Nat) (s : (Int32 × zM)) : Option ((Int32 × zM) ⊕ (zM ⊕ Empty)) :=
  if (gi s.2 8 v0 1) ≤ s.1 then (some (.inr (.inl s.2))) else (zob (zin s.1 12) (zob (zin s.1 12) ((fX7_copyFrom ((12 * v0 + zn s.1)) ((12 * v1 + zn s.1)) s.2).bind (fun x1 => some (.inl ((s.1 + 1), x1))))))
def fX8_copyFrom (v0 : Nat) (v1 : Nat) (mm : zM) : Option zM :=
  (zloop (fX8_copyFrom_L10 v0 v1) zF (0, (wi mm 8 v0 1 ((gi mm 8 v1 1))))).bind (fun o4 => zcase o4 (fun y2 => some y2) (fun r3 => r3.elim))
theorem wX8_copyFrom_L10 {E : zE} {d : Nat} (hd : 3 ≤ d) {Q : Option zV → zM → Prop} {v0 : Nat} {v1 : Nat} {n : Nat} {s : (Int32 × zM)} {o : zM ⊕ Empty} (h : zloop (fX8_copyFrom_L10 v0 v1) n s = some o) (he : ∀ y : zM, o = .inl y → V E RX8 cX8_copyFrom 3 none d Q 39 [none, none, none] [] y) : V E RX8 cX8_copyFrom 3 none d Q 10 [some (zK 8 v0), some (zK 8 v1), some (zI s.1)] [] s.2 := by
  induction n generalizing s with
  | zero => exact (zloop_0 h).elim
  | succ n ih =>
    obtain ⟨o1, h1, hc1, he1⟩ := zloop_s h
    have kc : ∀ s' : (Int32 × zM), o1 = .inl s' → V E RX8 cX8_copyFrom 3 none d Q 10 [some (zK 8 v0), some (zK 8 v1), some (zI s'.1)] [] s'.2 := fun s' e => ih (hc1 s' e)
    have ke : ∀ y : zM, o1 = .inr (.inl y) → V E RX8 cX8_copyFrom 3 none d Q 39 [none, none, none] [] y := fun y e => he y (he1 _ e)
    clear h hc1 he1 ih
    have h := h1
    clear h1
    unfold fX8_copyFrom_L10 at h
    refine V_iload_n 11 rfl 2 dX8_copyFrom_10 rfl rfl ?_
    refine V_aload_n 12 rfl 0 dX8_copyFrom_11 rfl rfl ?_
    refine V_geti 15 rfl dX8_copyFrom_12 fl_X8_18 rfl ?_
    refine V_icmp_ge 18 39 rfl dX8_copyFrom_15 (by decide) (fun c => ?_) (fun c => ?_)
    · have h := zpos c h
      exact V_w (zsub_n (zsub_n (zsub_n zsub_0))) (ke s.2 (zinj h))
    · have h := zneg c h
      refine V_aload_n 19 rfl 0 dX8_copyFrom_18 rfl rfl ?_
      refine V_getr 22 rfl 35 v0 dX8_copyFrom_19 fl_X8_11 rfl rfl rfl ?_
      refine V_iload_n 23 rfl 2 dX8_copyFrom_22 rfl rfl ?_
      obtain ⟨hi, h⟩ := zobd h
      refine V_aald 24 rfl 7 (12 * v0 + zn s.1) dX8_copyFrom_23 rfl (by decide) (by decide) rfl rfl hi ?_
      refine V_aload_n 25 rfl 1 dX8_copyFrom_24 rfl rfl ?_
      refine V_getr 28 rfl 35 v1 dX8_copyFrom_25 fl_X8_11 rfl rfl rfl ?_
      refine V_iload_n 29 rfl 2 dX8_copyFrom_28 rfl rfl ?_
      obtain ⟨hi, h⟩ := zobd h
      refine V_aald 30 rfl 7 (12 * v1 + zn s.1) dX8_copyFrom_29 rfl (by decide) (by decide) rfl rfl hi ?_
      obtain ⟨x1, h1, h⟩ := zbd h
      refine V_cV 33 rfl 2 [zK 7 (12 * v1 + zn s.1)] [] dX8_copyFrom_30 cv_X8_33 (ctX7_copyFrom (Nat.le_refl 2) h1) (Nat.le_trans (by decide) hd) rfl rfl (Nat.le_of_ble_eq_true rfl) zokn rfl ?_
      refine V_iinc 36 rfl (s.1 + 1) (L' := [some (zK 8 v0), some (zK 8 v1), some (zI (s.1 + 1))]) dX8_copyFrom_33 rfl rfl (by decide) rfl ?_
      refine V_goto 10 dX8_copyFrom_36 (by decide) ?_
      exact kc ((s.1 + 1), x1) (zinj h)
theorem wX8_copyFrom {E : zE} {d : Nat} (hd : 3 ≤ d) {Q : Option zV → zM → Prop} {v0 : Nat} {v1 : Nat} {mm : zM} {o : zM} (h : fX8_copyFrom v0 v1 mm = some o) (hQ : ∀ r, o = r → Q none r) : V E RX8 cX8_copyFrom 3 none d Q 0 [some (zK 8 v0), some (zK 8 v1), none] [] mm := by
  unfold fX8_copyFrom at h
  refine V_aload_n 1 rfl 0 dX8_copyFrom_0 rfl rfl ?_
  refine V_aload_n 2 rfl 1 dX8_copyFrom_1 rfl rfl ?_
  refine V_geti 5 rfl dX8_copyFrom_2 fl_X8_18 rfl ?_
  refine V_puti 8 rfl dX8_copyFrom_5 fw_X8_18 rfl rfl rfl ?_
  refine V_iconst 9 rfl (v := 0) dX8_copyFrom_8 (by decide) ?_
  refine V_istore_n 10 rfl 2 (L' := [some (zK 8 v0), some (zK 8 v1), some (zI 0)]) dX8_copyFrom_9 rfl (by decide) rfl ?_
  obtain ⟨o4, h1, h⟩ := zbd h
  refine wX8_copyFrom_L10 hd h1 (fun y2 e => ?_)
  have h := zcl_ e h
  exact V_vret dX8_copyFrom_39 rfl (hQ y2 (zinj h))
theorem ctX8_copyFrom {E : zE} {d : Nat} (hd : 3 ≤ d) {v0 : Nat} {v1 : Nat} {mm : zM} {o : zM} (h : fX8_copyFrom v0 v1 mm = some o) : zOC E yX8_copyFrom cX8_copyFrom 3 none d [zK 8 v0, zK 8 v1] mm none o :=
  zCT_of (by decide) (Nat.le_of_ble_eq_true rfl) (zk_k (zk_k zk_0)) rfl (wX8_copyFrom hd h (fun r e => ⟨rfl, by rw [e]⟩))
def fX9_keep (v1 : Int32) (mm : zM) : Option (Int32 × zM) :=
  if v1 < 0 then (some (((-1), mm))) else (if v1 < 2 then (zob (zin v1 2) ((gr mm 9 2).bind (fun j1 => (fX8_copyFrom ((2 + zn v1)) j1 mm).bind (fun x2 => (gr ((wi x2 9 0 5 ((((gi x2 9 0 5)) ||| ((1 <<< (v1 &&& 31))))))) 9 2).bind (fun j3 => some (((gi ((wi x2 9 0 5 ((((gi x2 9 0 5)) ||| ((1 <<< (v1 &&& 31))))))) 8 j3 1), (wi x2 9 0 5 ((((gi x2 9 0 5)) ||| ((1 <<< (v1 &&& 31))))))))))))) else (some (((-1), mm))))
theorem wX9_keep {E : zE} {d : Nat} (hd : 4 ≤ d) {Q : Option zV → zM → Prop} {v1 : Int32} {mm : zM} {o : (Int32 × zM)} (h : fX9_keep v1 mm = some o) (hQ : ∀ r, o = r → Q (some (zI r.1)) r.2) : V E RX9 cX9_keep 2 (some .int) d Q 0 [some (zK 9 0), some (zI v1)] [] mm := by
  unfold fX9_keep at h
  refine V_iload_n 1 rfl 1 dX9_keep_0 rfl rfl ?_
  refine V_if_lt 4 9 rfl dX9_keep_1 (by decide) (fun c => ?_) (fun c => ?_)
  · have h := zpos c h
    refine V_iconst 10 rfl (v := (-1)) dX9_keep_9 (by decide) ?_
    exact V_iret dX9_keep_10 rfl (hQ (((-1), mm)) (zinj h))
  · have h := zneg c h
    refine V_iload_n 5 rfl 1 dX9_keep_4 rfl rfl ?_
    refine V_iconst 6 rfl (v := 2) dX9_keep_5 (by decide) ?_
    refine V_icmp_lt 9 11 rfl dX9_keep_6 (by decide) (fun c => ?_) (fun c => ?_)
    · have h := zpos c h
      refine V_aload_n 12 rfl 0 dX9_keep_11 rfl rfl ?_
      refine V_getr 15 rfl 37 0 dX9_keep_12 fl_X9_23 rfl rfl rfl ?_
      refine V_iload_n 16 rfl 1 dX9_keep_15 rfl rfl ?_
      obtain ⟨hi, h⟩ := zobd h
      refine V_aald 17 rfl 8 (2 + zn v1) dX9_keep_16 rfl (by decide) (by decide) rfl rfl hi ?_
      refine V_aload_n 18 rfl 0 dX9_keep_17 rfl rfl ?_
      obtain ⟨j1, hj, h⟩ := zbd h
      refine V_getm 21 rfl 8 dX9_keep_18 fl_X9_16 rfl rfl hj ?_
      obtain ⟨x2, h1, h⟩ := zbd h
      refine V_cV 24 rfl 3 [zK 8 j1] [] dX9_keep_21 cv_X9_191 (ctX8_copyFrom (Nat.le_refl 3) h1) (Nat.le_trans (by decide) hd) rfl rfl (Nat.le_of_ble_eq_true rfl) zokn rfl ?_
      refine V_aload_n 25 rfl 0 dX9_keep_24 rfl rfl ?_
      refine V_dup 26 rfl dX9_keep_25 rfl ?_
      refine V_geti 29 rfl dX9_keep_26 fl_X9_194 rfl ?_
      refine V_iconst 30 rfl (v := 1) dX9_keep_29 (by decide) ?_
      refine V_iload_n 31 rfl 1 dX9_keep_30 rfl rfl ?_
      refine V_ishl 32 rfl dX9_keep_31 ?_
      refine V_ior 33 rfl dX9_keep_32 ?_
      refine V_puti 36 rfl dX9_keep_33 fw_X9_194 rfl rfl rfl ?_
      refine V_aload_n 37 rfl 0 dX9_keep_36 rfl rfl ?_
      obtain ⟨j3, hj, h⟩ := zbd h
      refine V_getm 40 rfl 8 dX9_keep_37 fl_X9_16 rfl rfl hj ?_
      refine V_geti 43 rfl dX9_keep_40 fl_X9_84 rfl ?_
      exact V_iret dX9_keep_43 rfl (hQ (((gi ((wi x2 9 0 5 ((((gi x2 9 0 5)) ||| ((1 <<< (v1 &&& 31))))))) 8 j3 1), (wi x2 9 0 5 ((((gi x2 9 0 5)) ||| ((1 <<< (v1 &&& 31)))))))) (zinj h))
    · have h := zneg c h
      refine V_iconst 10 rfl (v := (-1)) dX9_keep_9 (by decide) ?_
      exact V_iret dX9_keep_10 rfl (hQ (((-1), mm)) (zinj h))
theorem ctX9_keep {E : zE} {d : Nat} (hd : 4 ≤ d) {v1 : Int32} {mm : zM} {o : (Int32 × zM)} (h : fX9_keep v1 mm = some o) : zOC E yX9_keep cX9_keep 2 (some .int) d [zK 9 0, zI v1] mm (some (zI o.1)) o.2 :=
  zCT_of (by decide) (Nat.le_of_ble_eq_true rfl) (zk_k (zk_i zk_0)) rfl (wX9_keep hd h (fun r e => ⟨by rw [e], by rw [e]⟩))
def fX9_back (v1 : Int32) (mm : zM) : Option (Int32 × zM) :=
  if v1 < 0 then (some (((-1), mm))) else (if v1 < 2 then ((fX9_hasBit ((gi mm 9 0 5)) v1 mm).bind (fun x1 => if x1 = 0 then (some (((-2), mm))) else ((gr mm 9 2).bind (fun j2 => zob (zin v1 2) ((fX8_copyFrom j2 ((2 + zn v1)) mm).bind (fun x3 => (fX9_startAnew x3).bind (fun x4 => (gr x4 9 2).bind (fun j5 => some (((gi x4 8 j5 1), x4)))))))))) else (some (((-1), mm))))
theorem wX9_back {E : zE} {d : Nat} (hd : 4 ≤ d) {Q : Option zV → zM → Prop} {v1 : Int32} {mm : zM} {o : (Int32 × zM)} (h : fX9_back v1 mm = some o) (hQ : ∀ r, o = r → Q (some (zI r.1)) r.2) : V E RX9 cX9_back 2 (some .int) d Q 0 [some (zK 9 0), some (zI v1)] [] mm := by
  unfold fX9_back at h
  refine V_iload_n 1 rfl 1 dX9_back_0 rfl rfl ?_
  refine V_if_lt 4 9 rfl dX9_back_1 (by decide) (fun c => ?_) (fun c => ?_)
  · have h := zpos c h
    refine V_iconst 10 rfl (v := (-1)) dX9_back_9 (by decide) ?_
    exact V_iret dX9_back_10 rfl (hQ (((-1), mm)) (zinj h))
  · have h := zneg c h
    refine V_iload_n 5 rfl 1 dX9_back_4 rfl rfl ?_
    refine V_iconst 6 rfl (v := 2) dX9_back_5 (by decide) ?_
    refine V_icmp_lt 9 11 rfl dX9_back_6 (by decide) (fun c => ?_) (fun c => ?_)
    · have h := zpos c h
      refine V_aload_n 12 rfl 0 dX9_back_11 rfl rfl ?_
      refine V_geti 15 rfl dX9_back_12 fl_X9_194 rfl ?_
      refine V_iload_n 16 rfl 1 dX9_back_15 rfl rfl ?_
      obtain ⟨x1, h1, h⟩ := zbd h
      refine V_cS 19 rfl 0 [zI (gi mm 9 0 5), zI v1] [] dX9_back_16 cs_X9_197 (ctX9_hasBit (Nat.le_refl 0) h1) (Nat.le_trans (by decide) hd) rfl rfl (Nat.le_of_ble_eq_true rfl) zoki rfl ?_
      refine V_if_ne 22 25 rfl dX9_back_19 (by decide) (fun c => ?_) (fun c => ?_)
      · have h := zneg c h
        refine V_aload_n 26 rfl 0 dX9_back_25 rfl rfl ?_
        obtain ⟨j2, hj, h⟩ := zbd h
        refine V_getm 29 rfl 8 dX9_back_26 fl_X9_16 rfl rfl hj ?_
        refine V_aload_n 30 rfl 0 dX9_back_29 rfl rfl ?_
        refine V_getr 33 rfl 37 0 dX9_back_30 fl_X9_23 rfl rfl rfl ?_
        refine V_iload_n 34 rfl 1 dX9_back_33 rfl rfl ?_
        obtain ⟨hi, h⟩ := zobd h
        refine V_aald 35 rfl 8 (2 + zn v1) dX9_back_34 rfl (by decide) (by decide) rfl rfl hi ?_
        obtain ⟨x3, h1, h⟩ := zbd h
        refine V_cV 38 rfl 3 [zK 8 (2 + zn v1)] [] dX9_back_35 cv_X9_191 (ctX8_copyFrom (Nat.le_refl 3) h1) (Nat.le_trans (by decide) hd) rfl rfl (Nat.le_of_ble_eq_true rfl) zokn rfl ?_
        refine V_aload_n 39 rfl 0 dX9_back_38 rfl rfl ?_
        obtain ⟨x4, h1, h⟩ := zbd h
        refine V_cV 42 rfl 1 [] [] dX9_back_39 cv_X9_81 (ctX9_startAnew (Nat.le_refl 1) h1) (Nat.le_trans (by decide) hd) rfl rfl (Nat.le_of_ble_eq_true rfl) zokn rfl ?_
        refine V_aload_n 43 rfl 0 dX9_back_42 rfl rfl ?_
        obtain ⟨j5, hj, h⟩ := zbd h
        refine V_getm 46 rfl 8 dX9_back_43 fl_X9_16 rfl rfl hj ?_
        refine V_geti 49 rfl dX9_back_46 fl_X9_84 rfl ?_
        exact V_iret dX9_back_49 rfl (hQ (((gi x4 8 j5 1), x4)) (zinj h))
      · have h := zpos c h
        refine V_bipush 24 rfl (v := (-2)) dX9_back_22 (by decide) ?_
        exact V_iret dX9_back_24 rfl (hQ (((-2), mm)) (zinj h))
    · have h := zneg c h
      refine V_iconst 10 rfl (v := (-1)) dX9_back_9 (by decide) ?_
      exact V_iret dX9_back_10 rfl (hQ (((-1), mm)) (zinj h))
theorem ctX9_back {E : zE} {d : Nat} (hd : 4 ≤ d) {v1 : Int32} {mm : zM} {o : (Int32 × zM)} (h : fX9_back v1 mm = some o) : zOC E yX9_back cX9_back 2 (some .int) d [zK 9 0, zI v1] mm (some (zI o.1)) o.2 :=
  zCT_of (by decide) (Nat.le_of_ble_eq_true rfl) (zk_k (zk_i zk_0)) rfl (wX9_back hd h (fun r e => ⟨by rw [e], by rw [e]⟩))
def fJ7_fill_11_L5 (v1 : Int32) (v3 : Int32) (s : (Int32 × zM)) : Option ((Int32 × zM) ⊕ (zM ⊕ Empty)) :=
  if v3 ≤ s.1 then (some (.inr (.inl s.2))) else (zob (zin s.1 312) (some (.inl ((s.1 + 1), (wi s.2 11 0 (zn s.1) v1)))))
def fJ7_fill_11 (v1 : Int32) (mm : zM) : Option zM :=
  (zloop (fJ7_fill_11_L5 v1 312) zF (0, mm)).bind (fun o3 => zcase o3 (fun y1 => some y1) (fun r2 => r2.elim))
theorem wJ7_fill_11_L5 {E : zE} {d : Nat} (hd : 0 ≤ d) {Q : Option zV → zM → Prop} {v1 : Int32} {v3 : Int32} {n : Nat} {s : (Int32 × zM)} {o : zM ⊕ Empty} (h : zloop (fJ7_fill_11_L5 v1 v3) n s = some o) (he : ∀ y : zM, o = .inl y → V E RJ7 cJ7_fill_53178 4 none d Q 20 [none, none, none, none] [] y) : V E RJ7 cJ7_fill_53178 4 none d Q 5 [some (zK 11 0), some (zI v1), some (zI s.1), some (zI v3)] [] s.2 := by
  induction n generalizing s with
  | zero => exact (zloop_0 h).elim
  | succ n ih =>
    obtain ⟨o1, h1, hc1, he1⟩ := zloop_s h
    have kc : ∀ s' : (Int32 × zM), o1 = .inl s' → V E RJ7 cJ7_fill_53178 4 none d Q 5 [some (zK 11 0), some (zI v1), some (zI s'.1), some (zI v3)] [] s'.2 := fun s' e => ih (hc1 s' e)
    have ke : ∀ y : zM, o1 = .inr (.inl y) → V E RJ7 cJ7_fill_53178 4 none d Q 20 [none, none, none, none] [] y := fun y e => he y (he1 _ e)
    clear h hc1 he1 ih
    have h := h1
    clear h1
    unfold fJ7_fill_11_L5 at h
    refine V_iload_n 6 rfl 2 dJ7_fill_53178_5 rfl rfl ?_
    refine V_iload_n 7 rfl 3 dJ7_fill_53178_6 rfl rfl ?_
    refine V_icmp_ge 10 20 rfl dJ7_fill_53178_7 (by decide) (fun c => ?_) (fun c => ?_)
    · have h := zpos c h
      exact V_w (zsub_n (zsub_n (zsub_n (zsub_n zsub_0)))) (ke s.2 (zinj h))
    · have h := zneg c h
      refine V_aload_n 11 rfl 0 dJ7_fill_53178_10 rfl rfl ?_
      refine V_iload_n 12 rfl 2 dJ7_fill_53178_11 rfl rfl ?_
      refine V_iload_n 13 rfl 1 dJ7_fill_53178_12 rfl rfl ?_
      obtain ⟨hi, h⟩ := zobd h
      refine V_iast 14 rfl dJ7_fill_53178_13 rfl hi ?_
      refine V_iinc 17 rfl (s.1 + 1) (L' := [some (zK 11 0), some (zI v1), some (zI (s.1 + 1)), some (zI v3)]) dJ7_fill_53178_14 rfl rfl (by decide) rfl ?_
      refine V_goto 5 dJ7_fill_53178_17 (by decide) ?_
      exact kc ((s.1 + 1), (wi s.2 11 0 (zn s.1) v1)) (zinj h)
theorem wJ7_fill_11 {E : zE} {d : Nat} (hd : 0 ≤ d) {Q : Option zV → zM → Prop} {v1 : Int32} {mm : zM} {o : zM} (h : fJ7_fill_11 v1 mm = some o) (hQ : ∀ r, o = r → Q none r) : V E RJ7 cJ7_fill_53178 4 none d Q 0 [some (zK 11 0), some (zI v1), none, none] [] mm := by
  unfold fJ7_fill_11 at h
  refine V_iconst 1 rfl (v := 0) dJ7_fill_53178_0 (by decide) ?_
  refine V_istore_n 2 rfl 2 (L' := [some (zK 11 0), some (zI v1), some (zI 0), none]) dJ7_fill_53178_1 rfl (by decide) rfl ?_
  refine V_aload_n 3 rfl 0 dJ7_fill_53178_2 rfl rfl ?_
  refine V_alen 4 rfl 312 dJ7_fill_53178_3 rfl (by decide) (by decide) ?_
  refine V_istore_n 5 rfl 3 (L' := [some (zK 11 0), some (zI v1), some (zI 0), some (zI 312)]) dJ7_fill_53178_4 rfl (by decide) rfl ?_
  obtain ⟨o3, h1, h⟩ := zbd h
  refine wJ7_fill_11_L5 hd h1 (fun y1 e => ?_)
  have h := zcl_ e h
  exact V_vret dJ7_fill_53178_20 rfl (hQ y1 (zinj h))
theorem ctJ7_fill_11 {E : zE} {d : Nat} (hd : 0 ≤ d) {v1 : Int32} {mm : zM} {o : zM} (h : fJ7_fill_11 v1 mm = some o) : zOC E yJ7_fill_53178 cJ7_fill_53178 4 none d [zK 11 0, zI v1] mm none o :=
  zCT_of (by decide) (Nat.le_of_ble_eq_true rfl) (zk_k (zk_i zk_0)) rfl (wJ7_fill_11 hd h (fun r e => ⟨rfl, by rw [e]⟩))
def fX7_hasBody (v0 : Nat) (v1 : Int32) (mm : zM) : Option Int32 :=
  zob (zin v1 26) (if (gi mm 32 v0 (zn v1)) ≤ 0 then (some 0) else (some 1))
theorem wX7_hasBody {E : zE} {d : Nat} (hd : 0 ≤ d) {Q : Option zV → zM → Prop} {v0 : Nat} {v1 : Int32} {mm : zM} {o : Int32} (h : fX7_hasBody v0 v1 mm = some o) (hQ : ∀ r, o = r → Q (some (zI r)) mm) : V E RX7 cX7_hasBody 2 (some .boolean) d Q 0 [some (zK 7 v0), some (zI v1)] [] mm := by
  unfold fX7_hasBody at h
  refine V_aload_n 1 rfl 0 dX7_hasBody_0 rfl rfl ?_
  refine V_getr 4 rfl 32 v0 dX7_hasBody_1 fl_X7_25 rfl rfl rfl ?_
  refine V_iload_n 5 rfl 1 dX7_hasBody_4 rfl rfl ?_
  obtain ⟨hi, h⟩ := zobd h
  refine V_iald 6 rfl dX7_hasBody_5 rfl hi ?_
  refine V_if_le 9 13 rfl dX7_hasBody_6 (by decide) (fun c => ?_) (fun c => ?_)
  · have h := zpos c h
    refine V_iconst 14 rfl (v := 0) dX7_hasBody_13 (by decide) ?_
    exact V_zret dX7_hasBody_14 rfl rfl (hQ 0 (zinj h))
  · have h := zneg c h
    refine V_iconst 10 rfl (v := 1) dX7_hasBody_9 (by decide) ?_
    refine V_goto 14 dX7_hasBody_10 (by decide) ?_
    exact V_zret dX7_hasBody_14 rfl rfl (hQ 1 (zinj h))
theorem ctX7_hasBody {E : zE} {d : Nat} (hd : 0 ≤ d) {v0 : Nat} {v1 : Int32} {mm : zM} {o : Int32} (h : fX7_hasBody v0 v1 mm = some o) : zOC E yX7_hasBody cX7_hasBody 2 (some .boolean) d [zK 7 v0, zI v1] mm (some (zI o)) mm :=
  zCT_of (by decide) (Nat.le_of_ble_eq_true rfl) (zk_k (zk_i zk_0)) rfl (wX7_hasBody hd h (fun r e => ⟨by rw [e], rfl⟩))
def fX0_layOwn_L2 (v1 : Nat) (v2 : Int32) (s : (Int32 × zM)) : Option ((Int32 × zM) ⊕ (zM ⊕ Empty)) :=
  if 26 ≤ s.1 then (some (.inr (.inl s.2))) else ((fX7_hasBody v1 s.1 s.2).bind (fun x1 => if x1 = 0 then ((fX7_requires v1 s.1 s.2).bind (fun x2 => if x2 = 0 then (some (.inl ((s.1 + 1), s.2))) else (zob (zin ((((v2 * 26)) + s.1)) 312) (some (.inl ((s.1 + 1), (wi s.2 11 0 (zn ((((v2 * 26)) + s.1))) 2))))))) else (zob (zin ((((v2 * 26)) + s.1)) 312) (zob (zin ((((v2 * 26)) + s.1)) 312) (some (.inl ((s.1 + 1), (wi ((wi s.2 11 0 (zn ((((v2 * 26)) + s.1))) 1)) 12 0 (zn ((((v2 * 26)) + s.1))) ((((v2 * 26)) + s.1))))))))))
def fX0_layOwn (v1 : Nat) (v2 : Int32) (mm : zM) : Option zM :=
  (zloop (fX0_layOwn_L2 v1 v2) zF (0, mm)).bind (fun o5 => zcase o5 (fun y3 => some y3) (fun r4 => r4.elim))
theorem wX0_layOwn_L2 {E : zE} {d : Nat} (hd : 1 ≤ d) {Q : Option zV → zM → Prop} {v1 : Nat} {v2 : Int32} {n : Nat} {s : (Int32 × zM)} {o : zM ⊕ Empty} (h : zloop (fX0_layOwn_L2 v1 v2) n s = some o) (he : ∀ y : zM, o = .inl y → V E RX0 cX0_layOwn 5 none d Q 66 [none, none, none, none, none] [] y) : V E RX0 cX0_layOwn 5 none d Q 2 [some (zK 0 0), some (zK 7 v1), some (zI v2), some (zI s.1), none] [] s.2 := by
  induction n generalizing s with
  | zero => exact (zloop_0 h).elim
  | succ n ih =>
    obtain ⟨o1, h1, hc1, he1⟩ := zloop_s h
    have kc : ∀ s' : (Int32 × zM), o1 = .inl s' → V E RX0 cX0_layOwn 5 none d Q 2 [some (zK 0 0), some (zK 7 v1), some (zI v2), some (zI s'.1), none] [] s'.2 := fun s' e => ih (hc1 s' e)
    have ke : ∀ y : zM, o1 = .inr (.inl y) → V E RX0 cX0_layOwn 5 none d Q 66 [none, none, none, none, none] [] y := fun y e => he y (he1 _ e)
    clear h hc1 he1 ih
    have h := h1
    clear h1
    unfold fX0_layOwn_L2 at h
    refine V_iload_n 3 rfl 3 dX0_layOwn_2 rfl rfl ?_
    refine V_bipush 5 rfl (v := 26) dX0_layOwn_3 (by decide) ?_
    refine V_icmp_ge 8 66 rfl dX0_layOwn_5 (by decide) (fun c => ?_) (fun c => ?_)
    · have h := zpos c h
      exact V_w (zsub_n (zsub_n (zsub_n (zsub_n (zsub_s zsub_0))))) (ke s.2 (zinj h))
    · have h := zneg c h
      refine V_iload_n 9 rfl 2 dX0_layOwn_8 rfl rfl ?_
      refine V_bipush 11 rfl (v := 26) dX0_layOwn_9 (by decide) ?_
      refine V_imul 12 rfl dX0_layOwn_11 ?_
      refine V_iload_n 13 rfl 3 dX0_layOwn_12 rfl rfl ?_
      refine V_iadd 14 rfl dX0_layOwn_13 ?_
      refine V_istore 16 rfl (L' := [some (zK 0 0), some (zK 7 v1), some (zI v2), some (zI s.1), some (zI (((v2 * 26)) + s.1))]) dX0_layOwn_14 (by decide) rfl ?_
      refine V_aload_n 17 rfl 1 dX0_layOwn_16 rfl rfl ?_
      refine V_iload_n 18 rfl 3 dX0_layOwn_17 rfl rfl ?_
      obtain ⟨x1, h1, h⟩ := zbd h
      refine V_cV 21 rfl 0 [zI s.1] [] dX0_layOwn_18 cv_X0_54 (ctX7_hasBody (Nat.le_refl 0) h1) (Nat.le_trans (by decide) hd) rfl rfl (Nat.le_of_ble_eq_true rfl) zoki rfl ?_
      refine V_if_eq 24 44 rfl dX0_layOwn_21 (by decide) (fun c => ?_) (fun c => ?_)
      · have h := zpos c h
        refine V_aload_n 45 rfl 1 dX0_layOwn_44 rfl rfl ?_
        refine V_iload_n 46 rfl 3 dX0_layOwn_45 rfl rfl ?_
        obtain ⟨x2, h1, h⟩ := zbd h
        refine V_cV 49 rfl 0 [zI s.1] [] dX0_layOwn_46 cv_X0_58 (ctX7_requires (Nat.le_refl 0) h1) (Nat.le_trans (by decide) hd) rfl rfl (Nat.le_of_ble_eq_true rfl) zoki rfl ?_
        refine V_if_eq 52 60 rfl dX0_layOwn_49 (by decide) (fun c => ?_) (fun c => ?_)
        · have h := zpos c h
          refine V_iinc 63 rfl (s.1 + 1) (L' := [some (zK 0 0), some (zK 7 v1), some (zI v2), some (zI (s.1 + 1)), some (zI (((v2 * 26)) + s.1))]) dX0_layOwn_60 rfl rfl (by decide) rfl ?_
          refine V_goto 2 dX0_layOwn_63 (by decide) ?_
          exact V_w (zsub_s (zsub_s (zsub_s (zsub_s (zsub_n zsub_0))))) (kc ((s.1 + 1), s.2) (zinj h))
        · have h := zneg c h
          refine V_aload_n 53 rfl 0 dX0_layOwn_52 rfl rfl ?_
          refine V_getr 56 rfl 11 0 dX0_layOwn_53 fl_X0_9 rfl rfl rfl ?_
          refine V_iload 58 rfl dX0_layOwn_56 rfl ?_
          refine V_iconst 59 rfl (v := 2) dX0_layOwn_58 (by decide) ?_
          obtain ⟨hi, h⟩ := zobd h
          refine V_iast 60 rfl dX0_layOwn_59 rfl hi ?_
          refine V_iinc 63 rfl (s.1 + 1) (L' := [some (zK 0 0), some (zK 7 v1), some (zI v2), some (zI (s.1 + 1)), some (zI (((v2 * 26)) + s.1))]) dX0_layOwn_60 rfl rfl (by decide) rfl ?_
          refine V_goto 2 dX0_layOwn_63 (by decide) ?_
          exact V_w (zsub_s (zsub_s (zsub_s (zsub_s (zsub_n zsub_0))))) (kc ((s.1 + 1), (wi s.2 11 0 (zn ((((v2 * 26)) + s.1))) 2)) (zinj h))
      · have h := zneg c h
        refine V_aload_n 25 rfl 0 dX0_layOwn_24 rfl rfl ?_
        refine V_getr 28 rfl 11 0 dX0_layOwn_25 fl_X0_9 rfl rfl rfl ?_
        refine V_iload 30 rfl dX0_layOwn_28 rfl ?_
        refine V_iconst 31 rfl (v := 1) dX0_layOwn_30 (by decide) ?_
        obtain ⟨hi, h⟩ := zobd h
        refine V_iast 32 rfl dX0_layOwn_31 rfl hi ?_
        refine V_aload_n 33 rfl 0 dX0_layOwn_32 rfl rfl ?_
        refine V_getr 36 rfl 12 0 dX0_layOwn_33 fl_X0_15 rfl rfl rfl ?_
        refine V_iload 38 rfl dX0_layOwn_36 rfl ?_
        refine V_iload 40 rfl dX0_layOwn_38 rfl ?_
        obtain ⟨hi, h⟩ := zobd h
        refine V_iast 41 rfl dX0_layOwn_40 rfl hi ?_
        refine V_goto 60 dX0_layOwn_41 (by decide) ?_
        refine V_iinc 63 rfl (s.1 + 1) (L' := [some (zK 0 0), some (zK 7 v1), some (zI v2), some (zI (s.1 + 1)), some (zI (((v2 * 26)) + s.1))]) dX0_layOwn_60 rfl rfl (by decide) rfl ?_
        refine V_goto 2 dX0_layOwn_63 (by decide) ?_
        exact V_w (zsub_s (zsub_s (zsub_s (zsub_s (zsub_n zsub_0))))) (kc ((s.1 + 1), (wi ((wi s.2 11 0 (zn ((((v2 * 26)) + s.1))) 1)) 12 0 (zn ((((v2 * 26)) + s.1))) ((((v2 * 26)) + s.1)))) (zinj h))
theorem wX0_layOwn {E : zE} {d : Nat} (hd : 1 ≤ d) {Q : Option zV → zM → Prop} {v1 : Nat} {v2 : Int32} {mm : zM} {o : zM} (h : fX0_layOwn v1 v2 mm = some o) (hQ : ∀ r, o = r → Q none r) : V E RX0 cX0_layOwn 5 none d Q 0 [some (zK 0 0), some (zK 7 v1), some (zI v2), none, none] [] mm := by
  unfold fX0_layOwn at h
  refine V_iconst 1 rfl (v := 0) dX0_layOwn_0 (by decide) ?_
  refine V_istore_n 2 rfl 3 (L' := [some (zK 0 0), some (zK 7 v1), some (zI v2), some (zI 0), none]) dX0_layOwn_1 rfl (by decide) rfl ?_
  obtain ⟨o5, h1, h⟩ := zbd h
  refine wX0_layOwn_L2 hd h1 (fun y3 e => ?_)
  have h := zcl_ e h
  exact V_vret dX0_layOwn_66 rfl (hQ y3 (zinj h))
theorem ctX0_layOwn {E : zE} {d : Nat} (hd : 1 ≤ d) {v1 : Nat} {v2 : Int32} {mm : zM} {o : zM} (h : fX0_layOwn v1 v2 mm = some o) : zOC E yX0_layOwn cX0_layOwn 5 none d [zK 0 0, zK 7 v1, zI v2] mm none o :=
  zCT_of (by decide) (Nat.le_of_ble_eq_true rfl) (zk_k (zk_k (zk_i zk_0))) rfl (wX0_layOwn hd h (fun r e => ⟨rfl, by rw [e]⟩))
def fX5_itemAt (v0 : Nat) (v1 : Int32) (mm : zM) : Option Int32 :=
  if v1 < 0 then (some ((-1))) else (if (gi mm 5 v0 1) ≤ v1 then (some ((-1))) else (zob (zin v1 4) (some ((gi mm 30 v0 (zn v1))))))
theorem wX5_itemAt {E : zE} {d : Nat} (hd : 0 ≤ d) {Q : Option zV → zM → Prop} {v0 : Nat} {v1 : Int32} {mm : zM} {o : Int32} (h : fX5_itemAt v0 v1 mm = some o) (hQ : ∀ r, o = r → Q (some (zI r)) mm) : V E RX5 cX5_itemAt 2 (some .int) d Q 0 [some (zK 5 v0), some (zI v1)] [] mm := by
  unfold fX5_itemAt at h
  refine V_iload_n 1 rfl 1 dX5_itemAt_0 rfl rfl ?_
  refine V_if_lt 4 21 rfl dX5_itemAt_1 (by decide) (fun c => ?_) (fun c => ?_)
  · have h := zpos c h
    refine V_iconst 22 rfl (v := (-1)) dX5_itemAt_21 (by decide) ?_
    exact V_iret dX5_itemAt_22 rfl (hQ ((-1)) (zinj h))
  · have h := zneg c h
    refine V_iload_n 5 rfl 1 dX5_itemAt_4 rfl rfl ?_
    refine V_aload_n 6 rfl 0 dX5_itemAt_5 rfl rfl ?_
    refine V_geti 9 rfl dX5_itemAt_6 fl_X5_15 rfl ?_
    refine V_icmp_ge 12 21 rfl dX5_itemAt_9 (by decide) (fun c => ?_) (fun c => ?_)
    · have h := zpos c h
      refine V_iconst 22 rfl (v := (-1)) dX5_itemAt_21 (by decide) ?_
      exact V_iret dX5_itemAt_22 rfl (hQ ((-1)) (zinj h))
    · have h := zneg c h
      refine V_aload_n 13 rfl 0 dX5_itemAt_12 rfl rfl ?_
      refine V_getr 16 rfl 30 v0 dX5_itemAt_13 fl_X5_9 rfl rfl rfl ?_
      refine V_iload_n 17 rfl 1 dX5_itemAt_16 rfl rfl ?_
      obtain ⟨hi, h⟩ := zobd h
      refine V_iald 18 rfl dX5_itemAt_17 rfl hi ?_
      refine V_goto 22 dX5_itemAt_18 (by decide) ?_
      exact V_iret dX5_itemAt_22 rfl (hQ ((gi mm 30 v0 (zn v1))) (zinj h))
theorem ctX5_itemAt {E : zE} {d : Nat} (hd : 0 ≤ d) {v0 : Nat} {v1 : Int32} {mm : zM} {o : Int32} (h : fX5_itemAt v0 v1 mm = some o) : zOC E yX5_itemAt cX5_itemAt 2 (some .int) d [zK 5 v0, zI v1] mm (some (zI o)) mm :=
  zCT_of (by decide) (Nat.le_of_ble_eq_true rfl) (zk_k (zk_i zk_0)) rfl (wX5_itemAt hd h (fun r e => ⟨by rw [e], rfl⟩))
def fX0_addSource_J19 (v1 : Int32) (v2 : Int32) (mm : zM) : Option zM :=
  zob (zin v1 312) (zob (zin v1 312) (some ((wi ((wi mm 11 0 (zn v1) 1)) 12 0 (zn v1) v2))))
def fX0_addSource (v1 : Int32) (v2 : Int32) (mm : zM) : Option zM :=
  zob (zin v1 312) (if (gi mm 11 0 (zn v1)) = 0 then (fX0_addSource_J19 v1 v2 mm) else (zob (zin v1 312) (if (gi mm 11 0 (zn v1)) = 2 then (fX0_addSource_J19 v1 v2 mm) else (zob (zin v1 312) (if (gi mm 11 0 (zn v1)) = 1 then (zob (zin v1 312) (if (gi mm 12 0 (zn v1)) = v2 then (some mm) else (zob (zin v1 312) (zob (zin v1 312) (some ((wi ((wi mm 11 0 (zn v1) 3)) 13 0 (zn v1) v2))))))) else (some mm))))))
theorem wX0_addSource_J19 {E : zE} {d : Nat} (hd : 0 ≤ d) {Q : Option zV → zM → Prop} {v1 : Int32} {v2 : Int32} {mm : zM} {o : zM} (h : fX0_addSource_J19 v1 v2 mm = some o) (hQ : ∀ r, o = r → Q none r) : V E RX0 cX0_addSource 3 none d Q 19 [some (zK 0 0), some (zI v1), some (zI v2)] [] mm := by
  unfold fX0_addSource_J19 at h
  refine V_aload_n 20 rfl 0 dX0_addSource_19 rfl rfl ?_
  refine V_getr 23 rfl 11 0 dX0_addSource_20 fl_X0_9 rfl rfl rfl ?_
  refine V_iload_n 24 rfl 1 dX0_addSource_23 rfl rfl ?_
  refine V_iconst 25 rfl (v := 1) dX0_addSource_24 (by decide) ?_
  obtain ⟨hi, h⟩ := zobd h
  refine V_iast 26 rfl dX0_addSource_25 rfl hi ?_
  refine V_aload_n 27 rfl 0 dX0_addSource_26 rfl rfl ?_
  refine V_getr 30 rfl 12 0 dX0_addSource_27 fl_X0_15 rfl rfl rfl ?_
  refine V_iload_n 31 rfl 1 dX0_addSource_30 rfl rfl ?_
  refine V_iload_n 32 rfl 2 dX0_addSource_31 rfl rfl ?_
  obtain ⟨hi, h⟩ := zobd h
  refine V_iast 33 rfl dX0_addSource_32 rfl hi ?_
  refine V_goto 70 dX0_addSource_33 (by decide) ?_
  exact V_vret dX0_addSource_70 rfl (hQ ((wi ((wi mm 11 0 (zn v1) 1)) 12 0 (zn v1) v2)) (zinj h))
theorem wX0_addSource {E : zE} {d : Nat} (hd : 0 ≤ d) {Q : Option zV → zM → Prop} {v1 : Int32} {v2 : Int32} {mm : zM} {o : zM} (h : fX0_addSource v1 v2 mm = some o) (hQ : ∀ r, o = r → Q none r) : V E RX0 cX0_addSource 3 none d Q 0 [some (zK 0 0), some (zI v1), some (zI v2)] [] mm := by
  unfold fX0_addSource at h
  refine V_aload_n 1 rfl 0 dX0_addSource_0 rfl rfl ?_
  refine V_getr 4 rfl 11 0 dX0_addSource_1 fl_X0_9 rfl rfl rfl ?_
  refine V_iload_n 5 rfl 1 dX0_addSource_4 rfl rfl ?_
  obtain ⟨hi, h⟩ := zobd h
  refine V_iald 6 rfl dX0_addSource_5 rfl hi ?_
  refine V_if_eq 9 19 rfl dX0_addSource_6 (by decide) (fun c => ?_) (fun c => ?_)
  · have h := zpos c h
    exact wX0_addSource_J19 hd h hQ
  · have h := zneg c h
    refine V_aload_n 10 rfl 0 dX0_addSource_9 rfl rfl ?_
    refine V_getr 13 rfl 11 0 dX0_addSource_10 fl_X0_9 rfl rfl rfl ?_
    refine V_iload_n 14 rfl 1 dX0_addSource_13 rfl rfl ?_
    obtain ⟨hi, h⟩ := zobd h
    refine V_iald 15 rfl dX0_addSource_14 rfl hi ?_
    refine V_iconst 16 rfl (v := 2) dX0_addSource_15 (by decide) ?_
    refine V_icmp_ne 19 36 rfl dX0_addSource_16 (by decide) (fun c => ?_) (fun c => ?_)
    · have h := zneg c h
      refine V_aload_n 37 rfl 0 dX0_addSource_36 rfl rfl ?_
      refine V_getr 40 rfl 11 0 dX0_addSource_37 fl_X0_9 rfl rfl rfl ?_
      refine V_iload_n 41 rfl 1 dX0_addSource_40 rfl rfl ?_
      obtain ⟨hi, h⟩ := zobd h
      refine V_iald 42 rfl dX0_addSource_41 rfl hi ?_
      refine V_iconst 43 rfl (v := 1) dX0_addSource_42 (by decide) ?_
      refine V_icmp_ne 46 70 rfl dX0_addSource_43 (by decide) (fun c => ?_) (fun c => ?_)
      · have h := zneg c h
        exact V_vret dX0_addSource_70 rfl (hQ mm (zinj h))
      · have h := zpos c h
        refine V_aload_n 47 rfl 0 dX0_addSource_46 rfl rfl ?_
        refine V_getr 50 rfl 12 0 dX0_addSource_47 fl_X0_15 rfl rfl rfl ?_
        refine V_iload_n 51 rfl 1 dX0_addSource_50 rfl rfl ?_
        obtain ⟨hi, h⟩ := zobd h
        refine V_iald 52 rfl dX0_addSource_51 rfl hi ?_
        refine V_iload_n 53 rfl 2 dX0_addSource_52 rfl rfl ?_
        refine V_icmp_eq 56 70 rfl dX0_addSource_53 (by decide) (fun c => ?_) (fun c => ?_)
        · have h := zpos c h
          exact V_vret dX0_addSource_70 rfl (hQ mm (zinj h))
        · have h := zneg c h
          refine V_aload_n 57 rfl 0 dX0_addSource_56 rfl rfl ?_
          refine V_getr 60 rfl 11 0 dX0_addSource_57 fl_X0_9 rfl rfl rfl ?_
          refine V_iload_n 61 rfl 1 dX0_addSource_60 rfl rfl ?_
          refine V_iconst 62 rfl (v := 3) dX0_addSource_61 (by decide) ?_
          obtain ⟨hi, h⟩ := zobd h
          refine V_iast 63 rfl dX0_addSource_62 rfl hi ?_
          refine V_aload_n 64 rfl 0 dX0_addSource_63 rfl rfl ?_
          refine V_getr 67 rfl 13 0 dX0_addSource_64 fl_X0_18 rfl rfl rfl ?_
          refine V_iload_n 68 rfl 1 dX0_addSource_67 rfl rfl ?_
          refine V_iload_n 69 rfl 2 dX0_addSource_68 rfl rfl ?_
          obtain ⟨hi, h⟩ := zobd h
          refine V_iast 70 rfl dX0_addSource_69 rfl hi ?_
          exact V_vret dX0_addSource_70 rfl (hQ ((wi ((wi mm 11 0 (zn v1) 3)) 13 0 (zn v1) v2)) (zinj h))
    · have h := zpos c h
      exact wX0_addSource_J19 hd h hQ
theorem ctX0_addSource {E : zE} {d : Nat} (hd : 0 ≤ d) {v1 : Int32} {v2 : Int32} {mm : zM} {o : zM} (h : fX0_addSource v1 v2 mm = some o) : zOC E yX0_addSource cX0_addSource 3 none d [zK 0 0, zI v1, zI v2] mm none o :=
  zCT_of (by decide) (Nat.le_of_ble_eq_true rfl) (zk_k (zk_i (zk_i zk_0))) rfl (wX0_addSource hd h (fun r e => ⟨rfl, by rw [e]⟩))
