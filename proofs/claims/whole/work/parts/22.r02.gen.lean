def fX10_join (v1 : Int32) (v2 : Int32) (mm : zM) : Option (Int32 × zM) :=
  (fX10_isType v1 mm).bind (fun x1 => if x1 = 0 then (some (((-1), mm))) else ((fX10_isType v2 mm).bind (fun x2 => if x2 = 0 then (some (((-1), mm))) else (if v2 < v1 then ((fX10_placeOf v1 v2 mm).bind (fun x3 => if x3 = (-1) then ((fX10_parents v1 mm).bind (fun x4 => if x4 = 4 then (some (((-3), mm))) else ((fX10_keepsPast mm).bind (fun x5 => zob (zin ((((113 * v1)) + 2)) 1357) (zob (zin ((((113 * v1)) + 2)) 1357) ((fX10_parents v1 ((wi x5 38 0 (zn ((((113 * v1)) + 2))) ((((gi x5 38 0 (zn ((((113 * v1)) + 2))))) + 1))))).bind (fun x6 => zob (zin ((((((113 * v1)) + 2)) + x6)) 1357) ((fX10_parents v1 ((wi ((wi x5 38 0 (zn ((((113 * v1)) + 2))) ((((gi x5 38 0 (zn ((((113 * v1)) + 2))))) + 1)))) 38 0 (zn ((((((113 * v1)) + 2)) + x6))) v2))).bind (fun x7 => some ((x7, (wi ((wi x5 38 0 (zn ((((113 * v1)) + 2))) ((((gi x5 38 0 (zn ((((113 * v1)) + 2))))) + 1)))) 38 0 (zn ((((((113 * v1)) + 2)) + x6))) v2)))))))))))) else (some (((-2), mm))))) else (some (((-1), mm)))))))
theorem wX10_join {E : zE} {d : Nat} (hd : 3 ≤ d) {Q : Option zV → zM → Prop} {v1 : Int32} {v2 : Int32} {mm : zM} {o : (Int32 × zM)} (h : fX10_join v1 v2 mm = some o) (hQ : ∀ r, o = r → Q (some (zI r.1)) r.2) : V E RX10 cX10_join 3 (some .int) d Q 0 [some (zK 10 0), some (zI v1), some (zI v2)] [] mm := by
  unfold fX10_join at h
  refine V_aload_n 1 rfl 0 dX10_join_0 rfl rfl ?_
  refine V_iload_n 2 rfl 1 dX10_join_1 rfl rfl ?_
  obtain ⟨x1, h1, h⟩ := zbd h
  refine V_cV 5 rfl 2 [zI v1] [] dX10_join_2 cv_X10_258 (ctX10_isType (Nat.le_refl 2) h1) (Nat.le_trans (by decide) hd) rfl rfl (Nat.le_of_ble_eq_true rfl) zoki rfl ?_
  refine V_if_eq 8 21 rfl dX10_join_5 (by decide) (fun c => ?_) (fun c => ?_)
  · have h := zpos c h
    refine V_iconst 22 rfl (v := (-1)) dX10_join_21 (by decide) ?_
    exact V_iret dX10_join_22 rfl (hQ (((-1), mm)) (zinj h))
  · have h := zneg c h
    refine V_aload_n 9 rfl 0 dX10_join_8 rfl rfl ?_
    refine V_iload_n 10 rfl 2 dX10_join_9 rfl rfl ?_
    obtain ⟨x2, h1, h⟩ := zbd h
    refine V_cV 13 rfl 2 [zI v2] [] dX10_join_10 cv_X10_258 (ctX10_isType (Nat.le_refl 2) h1) (Nat.le_trans (by decide) hd) rfl rfl (Nat.le_of_ble_eq_true rfl) zoki rfl ?_
    refine V_if_eq 16 21 rfl dX10_join_13 (by decide) (fun c => ?_) (fun c => ?_)
    · have h := zpos c h
      refine V_iconst 22 rfl (v := (-1)) dX10_join_21 (by decide) ?_
      exact V_iret dX10_join_22 rfl (hQ (((-1), mm)) (zinj h))
    · have h := zneg c h
      refine V_iload_n 17 rfl 2 dX10_join_16 rfl rfl ?_
      refine V_iload_n 18 rfl 1 dX10_join_17 rfl rfl ?_
      refine V_icmp_lt 21 23 rfl dX10_join_18 (by decide) (fun c => ?_) (fun c => ?_)
      · have h := zpos c h
        refine V_aload_n 24 rfl 0 dX10_join_23 rfl rfl ?_
        refine V_iload_n 25 rfl 1 dX10_join_24 rfl rfl ?_
        refine V_iload_n 26 rfl 2 dX10_join_25 rfl rfl ?_
        obtain ⟨x3, h1, h⟩ := zbd h
        refine V_cV 29 rfl 1 [zI v1, zI v2] [] dX10_join_26 cv_X10_261 (ctX10_placeOf (Nat.le_refl 1) h1) (Nat.le_trans (by decide) hd) rfl rfl (Nat.le_of_ble_eq_true rfl) zoki rfl ?_
        refine V_iconst 30 rfl (v := (-1)) dX10_join_29 (by decide) ?_
        refine V_icmp_eq 33 36 rfl dX10_join_30 (by decide) (fun c => ?_) (fun c => ?_)
        · have h := zpos c h
          refine V_aload_n 37 rfl 0 dX10_join_36 rfl rfl ?_
          refine V_iload_n 38 rfl 1 dX10_join_37 rfl rfl ?_
          obtain ⟨x4, h1, h⟩ := zbd h
          refine V_cV 41 rfl 0 [zI v1] [] dX10_join_38 cv_X10_237 (ctX10_parents (Nat.le_refl 0) h1) (Nat.le_trans (by decide) hd) rfl rfl (Nat.le_of_ble_eq_true rfl) zoki rfl ?_
          refine V_iconst 42 rfl (v := 4) dX10_join_41 (by decide) ?_
          refine V_icmp_ne 45 48 rfl dX10_join_42 (by decide) (fun c => ?_) (fun c => ?_)
          · have h := zneg c h
            refine V_aload_n 49 rfl 0 dX10_join_48 rfl rfl ?_
            obtain ⟨x5, h1, h⟩ := zbd h
            refine V_cV 52 rfl 1 [] [] dX10_join_49 cv_X10_264 (ctX10_keepsPast (Nat.le_refl 1) h1) (Nat.le_trans (by decide) hd) rfl rfl (Nat.le_of_ble_eq_true rfl) zokn rfl ?_
            refine V_aload_n 53 rfl 0 dX10_join_52 rfl rfl ?_
            refine V_getr 56 rfl 38 0 dX10_join_53 fl_X10_11 rfl rfl rfl ?_
            refine V_bipush 58 rfl (v := 113) dX10_join_56 (by decide) ?_
            refine V_iload_n 59 rfl 1 dX10_join_58 rfl rfl ?_
            refine V_imul 60 rfl dX10_join_59 ?_
            refine V_iconst 61 rfl (v := 2) dX10_join_60 (by decide) ?_
            refine V_iadd 62 rfl dX10_join_61 ?_
            refine V_dup2 63 rfl dX10_join_62 rfl rfl ?_
            obtain ⟨hi, h⟩ := zobd h
            refine V_iald 64 rfl dX10_join_63 rfl hi ?_
            refine V_iconst 65 rfl (v := 1) dX10_join_64 (by decide) ?_
            refine V_iadd 66 rfl dX10_join_65 ?_
            obtain ⟨hi, h⟩ := zobd h
            refine V_iast 67 rfl dX10_join_66 rfl hi ?_
            refine V_aload_n 68 rfl 0 dX10_join_67 rfl rfl ?_
            refine V_getr 71 rfl 38 0 dX10_join_68 fl_X10_11 rfl rfl rfl ?_
            refine V_bipush 73 rfl (v := 113) dX10_join_71 (by decide) ?_
            refine V_iload_n 74 rfl 1 dX10_join_73 rfl rfl ?_
            refine V_imul 75 rfl dX10_join_74 ?_
            refine V_iconst 76 rfl (v := 2) dX10_join_75 (by decide) ?_
            refine V_iadd 77 rfl dX10_join_76 ?_
            refine V_aload_n 78 rfl 0 dX10_join_77 rfl rfl ?_
            refine V_iload_n 79 rfl 1 dX10_join_78 rfl rfl ?_
            obtain ⟨x6, h1, h⟩ := zbd h
            refine V_cV 82 rfl 0 [zI v1] [zI (((113 * v1)) + 2), zK 38 0] dX10_join_79 cv_X10_237 (ctX10_parents (Nat.le_refl 0) h1) (Nat.le_trans (by decide) hd) rfl rfl (Nat.le_of_ble_eq_true rfl) zoki rfl ?_
            refine V_iadd 83 rfl dX10_join_82 ?_
            refine V_iload_n 84 rfl 2 dX10_join_83 rfl rfl ?_
            obtain ⟨hi, h⟩ := zobd h
            refine V_iast 85 rfl dX10_join_84 rfl hi ?_
            refine V_aload_n 86 rfl 0 dX10_join_85 rfl rfl ?_
            refine V_iload_n 87 rfl 1 dX10_join_86 rfl rfl ?_
            obtain ⟨x7, h1, h⟩ := zbd h
            refine V_cV 90 rfl 0 [zI v1] [] dX10_join_87 cv_X10_237 (ctX10_parents (Nat.le_refl 0) h1) (Nat.le_trans (by decide) hd) rfl rfl (Nat.le_of_ble_eq_true rfl) zoki rfl ?_
            exact V_iret dX10_join_90 rfl (hQ ((x7, (wi ((wi x5 38 0 (zn ((((113 * v1)) + 2))) ((((gi x5 38 0 (zn ((((113 * v1)) + 2))))) + 1)))) 38 0 (zn ((((((113 * v1)) + 2)) + x6))) v2))) (zinj h))
          · have h := zpos c h
            refine V_bipush 47 rfl (v := (-3)) dX10_join_45 (by decide) ?_
            exact V_iret dX10_join_47 rfl (hQ (((-3), mm)) (zinj h))
        · have h := zneg c h
          refine V_bipush 35 rfl (v := (-2)) dX10_join_33 (by decide) ?_
          exact V_iret dX10_join_35 rfl (hQ (((-2), mm)) (zinj h))
      · have h := zneg c h
        refine V_iconst 22 rfl (v := (-1)) dX10_join_21 (by decide) ?_
        exact V_iret dX10_join_22 rfl (hQ (((-1), mm)) (zinj h))
theorem ctX10_join {E : zE} {d : Nat} (hd : 3 ≤ d) {v1 : Int32} {v2 : Int32} {mm : zM} {o : (Int32 × zM)} (h : fX10_join v1 v2 mm = some o) : zOC E yX10_join cX10_join 3 (some .int) d [zK 10 0, zI v1, zI v2] mm (some (zI o.1)) o.2 :=
  zCT_of (by decide) (Nat.le_of_ble_eq_true rfl) (zk_k (zk_i (zk_i zk_0))) rfl (wX10_join hd h (fun r e => ⟨by rw [e], by rw [e]⟩))
def fX10_leave_L31 (v1 : Int32) (s : (Int32 × zM)) : Option ((Int32 × zM) ⊕ (zM ⊕ Empty)) :=
  (fX10_parents v1 s.2).bind (fun x5 => if (x5 - 1) ≤ s.1 then (some (.inr (.inl s.2))) else ((fX10_parentOf v1 ((s.1 + 1)) s.2).bind (fun x6 => zob (zin ((((((((113 * v1)) + 2)) + 1)) + s.1)) 1357) (some (.inl ((s.1 + 1), (wi s.2 38 0 (zn ((((((((113 * v1)) + 2)) + 1)) + s.1))) x6)))))))
def fX10_leave (v1 : Int32) (v2 : Int32) (mm : zM) : Option (Int32 × zM) :=
  (fX10_isType v1 mm).bind (fun x1 => if x1 = 0 then (some (((-1), mm))) else ((fX10_placeOf v1 v2 mm).bind (fun x2 => if x2 = (-1) then (some (((-1), mm))) else ((fX10_keepsPast mm).bind (fun x3 => (fX10_placeOf v1 v2 x3).bind (fun x4 => (zloop (fX10_leave_L31 v1) zF (x4, x3)).bind (fun o10 => zcase o10 (fun y7 => zob (zin ((((113 * v1)) + 2)) 1357) (zob (zin ((((113 * v1)) + 2)) 1357) ((fX10_parents v1 ((wi y7 38 0 (zn ((((113 * v1)) + 2))) ((((gi y7 38 0 (zn ((((113 * v1)) + 2))))) - 1))))).bind (fun x9 => some ((x9, (wi y7 38 0 (zn ((((113 * v1)) + 2))) ((((gi y7 38 0 (zn ((((113 * v1)) + 2))))) - 1))))))))) (fun r8 => r8.elim))))))))
theorem wX10_leave_L31 {E : zE} {d : Nat} (hd : 3 ≤ d) {Q : Option zV → zM → Prop} {v1 : Int32} {n : Nat} {s : (Int32 × zM)} {o : zM ⊕ Empty} (h : zloop (fX10_leave_L31 v1) n s = some o) (he : ∀ y : zM, o = .inl y → V E RX10 cX10_leave 4 (some .int) d Q 71 [some (zK 10 0), some (zI v1), none, none] [] y) : V E RX10 cX10_leave 4 (some .int) d Q 31 [some (zK 10 0), some (zI v1), none, some (zI s.1)] [] s.2 := by
  induction n generalizing s with
  | zero => exact (zloop_0 h).elim
  | succ n ih =>
    obtain ⟨o1, h1, hc1, he1⟩ := zloop_s h
    have kc : ∀ s' : (Int32 × zM), o1 = .inl s' → V E RX10 cX10_leave 4 (some .int) d Q 31 [some (zK 10 0), some (zI v1), none, some (zI s'.1)] [] s'.2 := fun s' e => ih (hc1 s' e)
    have ke : ∀ y : zM, o1 = .inr (.inl y) → V E RX10 cX10_leave 4 (some .int) d Q 71 [some (zK 10 0), some (zI v1), none, none] [] y := fun y e => he y (he1 _ e)
    clear h hc1 he1 ih
    have h := h1
    clear h1
    unfold fX10_leave_L31 at h
    refine V_iload_n 32 rfl 3 dX10_leave_31 rfl rfl ?_
    refine V_aload_n 33 rfl 0 dX10_leave_32 rfl rfl ?_
    refine V_iload_n 34 rfl 1 dX10_leave_33 rfl rfl ?_
    obtain ⟨x5, h1, h⟩ := zbd h
    refine V_cV 37 rfl 0 [zI v1] [zI s.1] dX10_leave_34 cv_X10_237 (ctX10_parents (Nat.le_refl 0) h1) (Nat.le_trans (by decide) hd) rfl rfl (Nat.le_of_ble_eq_true rfl) zoki rfl ?_
    refine V_iconst 38 rfl (v := 1) dX10_leave_37 (by decide) ?_
    refine V_isub 39 rfl dX10_leave_38 ?_
    refine V_icmp_ge 42 71 rfl dX10_leave_39 (by decide) (fun c => ?_) (fun c => ?_)
    · have h := zpos c h
      exact V_w (zsub_s (zsub_s (zsub_s (zsub_n zsub_0)))) (ke s.2 (zinj h))
    · have h := zneg c h
      refine V_aload_n 43 rfl 0 dX10_leave_42 rfl rfl ?_
      refine V_getr 46 rfl 38 0 dX10_leave_43 fl_X10_11 rfl rfl rfl ?_
      refine V_bipush 48 rfl (v := 113) dX10_leave_46 (by decide) ?_
      refine V_iload_n 49 rfl 1 dX10_leave_48 rfl rfl ?_
      refine V_imul 50 rfl dX10_leave_49 ?_
      refine V_iconst 51 rfl (v := 2) dX10_leave_50 (by decide) ?_
      refine V_iadd 52 rfl dX10_leave_51 ?_
      refine V_iconst 53 rfl (v := 1) dX10_leave_52 (by decide) ?_
      refine V_iadd 54 rfl dX10_leave_53 ?_
      refine V_iload_n 55 rfl 3 dX10_leave_54 rfl rfl ?_
      refine V_iadd 56 rfl dX10_leave_55 ?_
      refine V_aload_n 57 rfl 0 dX10_leave_56 rfl rfl ?_
      refine V_iload_n 58 rfl 1 dX10_leave_57 rfl rfl ?_
      refine V_iload_n 59 rfl 3 dX10_leave_58 rfl rfl ?_
      refine V_iconst 60 rfl (v := 1) dX10_leave_59 (by decide) ?_
      refine V_iadd 61 rfl dX10_leave_60 ?_
      obtain ⟨x6, h1, h⟩ := zbd h
      refine V_cV 64 rfl 0 [zI v1, zI (s.1 + 1)] [zI (((((((113 * v1)) + 2)) + 1)) + s.1), zK 38 0] dX10_leave_61 cv_X10_240 (ctX10_parentOf (Nat.le_refl 0) h1) (Nat.le_trans (by decide) hd) rfl rfl (Nat.le_of_ble_eq_true rfl) zoki rfl ?_
      obtain ⟨hi, h⟩ := zobd h
      refine V_iast 65 rfl dX10_leave_64 rfl hi ?_
      refine V_iinc 68 rfl (s.1 + 1) (L' := [some (zK 10 0), some (zI v1), none, some (zI (s.1 + 1))]) dX10_leave_65 rfl rfl (by decide) rfl ?_
      refine V_goto 31 dX10_leave_68 (by decide) ?_
      exact kc ((s.1 + 1), (wi s.2 38 0 (zn ((((((((113 * v1)) + 2)) + 1)) + s.1))) x6)) (zinj h)
theorem wX10_leave {E : zE} {d : Nat} (hd : 3 ≤ d) {Q : Option zV → zM → Prop} {v1 : Int32} {v2 : Int32} {mm : zM} {o : (Int32 × zM)} (h : fX10_leave v1 v2 mm = some o) (hQ : ∀ r, o = r → Q (some (zI r.1)) r.2) : V E RX10 cX10_leave 4 (some .int) d Q 0 [some (zK 10 0), some (zI v1), some (zI v2), none] [] mm := by
  unfold fX10_leave at h
  refine V_aload_n 1 rfl 0 dX10_leave_0 rfl rfl ?_
  refine V_iload_n 2 rfl 1 dX10_leave_1 rfl rfl ?_
  obtain ⟨x1, h1, h⟩ := zbd h
  refine V_cV 5 rfl 2 [zI v1] [] dX10_leave_2 cv_X10_258 (ctX10_isType (Nat.le_refl 2) h1) (Nat.le_trans (by decide) hd) rfl rfl (Nat.le_of_ble_eq_true rfl) zoki rfl ?_
  refine V_if_eq 8 18 rfl dX10_leave_5 (by decide) (fun c => ?_) (fun c => ?_)
  · have h := zpos c h
    refine V_iconst 19 rfl (v := (-1)) dX10_leave_18 (by decide) ?_
    exact V_iret dX10_leave_19 rfl (hQ (((-1), mm)) (zinj h))
  · have h := zneg c h
    refine V_aload_n 9 rfl 0 dX10_leave_8 rfl rfl ?_
    refine V_iload_n 10 rfl 1 dX10_leave_9 rfl rfl ?_
    refine V_iload_n 11 rfl 2 dX10_leave_10 rfl rfl ?_
    obtain ⟨x2, h1, h⟩ := zbd h
    refine V_cV 14 rfl 1 [zI v1, zI v2] [] dX10_leave_11 cv_X10_261 (ctX10_placeOf (Nat.le_refl 1) h1) (Nat.le_trans (by decide) hd) rfl rfl (Nat.le_of_ble_eq_true rfl) zoki rfl ?_
    refine V_iconst 15 rfl (v := (-1)) dX10_leave_14 (by decide) ?_
    refine V_icmp_ne 18 20 rfl dX10_leave_15 (by decide) (fun c => ?_) (fun c => ?_)
    · have h := zneg c h
      refine V_aload_n 21 rfl 0 dX10_leave_20 rfl rfl ?_
      obtain ⟨x3, h1, h⟩ := zbd h
      refine V_cV 24 rfl 1 [] [] dX10_leave_21 cv_X10_264 (ctX10_keepsPast (Nat.le_refl 1) h1) (Nat.le_trans (by decide) hd) rfl rfl (Nat.le_of_ble_eq_true rfl) zokn rfl ?_
      refine V_aload_n 25 rfl 0 dX10_leave_24 rfl rfl ?_
      refine V_iload_n 26 rfl 1 dX10_leave_25 rfl rfl ?_
      refine V_iload_n 27 rfl 2 dX10_leave_26 rfl rfl ?_
      obtain ⟨x4, h1, h⟩ := zbd h
      refine V_cV 30 rfl 1 [zI v1, zI v2] [] dX10_leave_27 cv_X10_261 (ctX10_placeOf (Nat.le_refl 1) h1) (Nat.le_trans (by decide) hd) rfl rfl (Nat.le_of_ble_eq_true rfl) zoki rfl ?_
      refine V_istore_n 31 rfl 3 (L' := [some (zK 10 0), some (zI v1), some (zI v2), some (zI x4)]) dX10_leave_30 rfl (by decide) rfl ?_
      obtain ⟨o10, h1, h⟩ := zbd h
      refine V_w (zsub_s (zsub_s (zsub_n (zsub_s zsub_0)))) (wX10_leave_L31 hd h1 (fun y7 e => ?_))
      have h := zcl_ e h
      refine V_aload_n 72 rfl 0 dX10_leave_71 rfl rfl ?_
      refine V_getr 75 rfl 38 0 dX10_leave_72 fl_X10_11 rfl rfl rfl ?_
      refine V_bipush 77 rfl (v := 113) dX10_leave_75 (by decide) ?_
      refine V_iload_n 78 rfl 1 dX10_leave_77 rfl rfl ?_
      refine V_imul 79 rfl dX10_leave_78 ?_
      refine V_iconst 80 rfl (v := 2) dX10_leave_79 (by decide) ?_
      refine V_iadd 81 rfl dX10_leave_80 ?_
      refine V_dup2 82 rfl dX10_leave_81 rfl rfl ?_
      obtain ⟨hi, h⟩ := zobd h
      refine V_iald 83 rfl dX10_leave_82 rfl hi ?_
      refine V_iconst 84 rfl (v := 1) dX10_leave_83 (by decide) ?_
      refine V_isub 85 rfl dX10_leave_84 ?_
      obtain ⟨hi, h⟩ := zobd h
      refine V_iast 86 rfl dX10_leave_85 rfl hi ?_
      refine V_aload_n 87 rfl 0 dX10_leave_86 rfl rfl ?_
      refine V_iload_n 88 rfl 1 dX10_leave_87 rfl rfl ?_
      obtain ⟨x9, h1, h⟩ := zbd h
      refine V_cV 91 rfl 0 [zI v1] [] dX10_leave_88 cv_X10_237 (ctX10_parents (Nat.le_refl 0) h1) (Nat.le_trans (by decide) hd) rfl rfl (Nat.le_of_ble_eq_true rfl) zoki rfl ?_
      exact V_iret dX10_leave_91 rfl (hQ ((x9, (wi y7 38 0 (zn ((((113 * v1)) + 2))) ((((gi y7 38 0 (zn ((((113 * v1)) + 2))))) - 1))))) (zinj h))
    · have h := zpos c h
      refine V_iconst 19 rfl (v := (-1)) dX10_leave_18 (by decide) ?_
      exact V_iret dX10_leave_19 rfl (hQ (((-1), mm)) (zinj h))
theorem ctX10_leave {E : zE} {d : Nat} (hd : 3 ≤ d) {v1 : Int32} {v2 : Int32} {mm : zM} {o : (Int32 × zM)} (h : fX10_leave v1 v2 mm = some o) : zOC E yX10_leave cX10_leave 4 (some .int) d [zK 10 0, zI v1, zI v2] mm (some (zI o.1)) o.2 :=
  zCT_of (by decide) (Nat.le_of_ble_eq_true rfl) (zk_k (zk_i (zk_i zk_0))) rfl (wX10_leave hd h (fun r e => ⟨by rw [e], by rw [e]⟩))
def fX10_turn_L40 (v2 : Int32) (v3 : Int32) (s : (Int32 × zM)) : Option ((Int32 × zM) ⊕ (zM ⊕ Empty)) :=
  if (v2 / 2) ≤ s.1 then (some (.inr (.inl s.2))) else (zob (zin ((v3 + s.1)) 1357) (zob (zin ((((((v3 + v2)) - 1)) - s.1)) 1357) (zob (zin ((v3 + s.1)) 1357) (zob (zin ((((((v3 + v2)) - 1)) - s.1)) 1357) (some (.inl ((s.1 + 1), (wi ((wi s.2 38 0 (zn ((v3 + s.1))) ((gi s.2 38 0 (zn ((((((v3 + v2)) - 1)) - s.1))))))) 38 0 (zn ((((((v3 + v2)) - 1)) - s.1))) ((gi s.2 38 0 (zn ((v3 + s.1)))))))))))))
def fX10_turn (v1 : Int32) (mm : zM) : Option (Int32 × zM) :=
  (fX10_isType v1 mm).bind (fun x1 => if x1 = 0 then (some (((-1), mm))) else ((fX10_parents v1 mm).bind (fun x2 => if 2 ≤ x2 then ((fX10_keepsPast mm).bind (fun x3 => (zloop (fX10_turn_L40 x2 ((((((113 * v1)) + 2)) + 1))) zF (0, x3)).bind (fun o6 => zcase o6 (fun y4 => some ((x2, y4))) (fun r5 => r5.elim)))) else (some (((-2), mm))))))
theorem wX10_turn_L40 {E : zE} {d : Nat} (hd : 3 ≤ d) {Q : Option zV → zM → Prop} {v2 : Int32} {v3 : Int32} {n : Nat} {s : (Int32 × zM)} {o : zM ⊕ Empty} (h : zloop (fX10_turn_L40 v2 v3) n s = some o) (he : ∀ y : zM, o = .inl y → V E RX10 cX10_turn 6 (some .int) d Q 102 [none, none, some (zI v2), none, none, none] [] y) : V E RX10 cX10_turn 6 (some .int) d Q 40 [some (zK 10 0), none, some (zI v2), some (zI v3), some (zI s.1), none] [] s.2 := by
  induction n generalizing s with
  | zero => exact (zloop_0 h).elim
  | succ n ih =>
    obtain ⟨o1, h1, hc1, he1⟩ := zloop_s h
    have kc : ∀ s' : (Int32 × zM), o1 = .inl s' → V E RX10 cX10_turn 6 (some .int) d Q 40 [some (zK 10 0), none, some (zI v2), some (zI v3), some (zI s'.1), none] [] s'.2 := fun s' e => ih (hc1 s' e)
    have ke : ∀ y : zM, o1 = .inr (.inl y) → V E RX10 cX10_turn 6 (some .int) d Q 102 [none, none, some (zI v2), none, none, none] [] y := fun y e => he y (he1 _ e)
    clear h hc1 he1 ih
    have h := h1
    clear h1
    unfold fX10_turn_L40 at h
    refine V_iload 42 rfl dX10_turn_40 rfl ?_
    refine V_iload_n 43 rfl 2 dX10_turn_42 rfl rfl ?_
    refine V_iconst 44 rfl (v := 2) dX10_turn_43 (by decide) ?_
    refine V_idiv 45 rfl dX10_turn_44 (by decide) ?_
    refine V_icmp_ge 48 102 rfl dX10_turn_45 (by decide) (fun c => ?_) (fun c => ?_)
    · have h := zpos c h
      exact V_w (zsub_n (zsub_s (zsub_s (zsub_n (zsub_n (zsub_s zsub_0)))))) (ke s.2 (zinj h))
    · have h := zneg c h
      refine V_aload_n 49 rfl 0 dX10_turn_48 rfl rfl ?_
      refine V_getr 52 rfl 38 0 dX10_turn_49 fl_X10_11 rfl rfl rfl ?_
      refine V_iload_n 53 rfl 3 dX10_turn_52 rfl rfl ?_
      refine V_iload 55 rfl dX10_turn_53 rfl ?_
      refine V_iadd 56 rfl dX10_turn_55 ?_
      obtain ⟨hi, h⟩ := zobd h
      refine V_iald 57 rfl dX10_turn_56 rfl hi ?_
      refine V_istore 59 rfl (L' := [some (zK 10 0), none, some (zI v2), some (zI v3), some (zI s.1), some (zI (gi s.2 38 0 (zn ((v3 + s.1)))))]) dX10_turn_57 (by decide) rfl ?_
      refine V_aload_n 60 rfl 0 dX10_turn_59 rfl rfl ?_
      refine V_getr 63 rfl 38 0 dX10_turn_60 fl_X10_11 rfl rfl rfl ?_
      refine V_iload_n 64 rfl 3 dX10_turn_63 rfl rfl ?_
      refine V_iload 66 rfl dX10_turn_64 rfl ?_
      refine V_iadd 67 rfl dX10_turn_66 ?_
      refine V_aload_n 68 rfl 0 dX10_turn_67 rfl rfl ?_
      refine V_getr 71 rfl 38 0 dX10_turn_68 fl_X10_11 rfl rfl rfl ?_
      refine V_iload_n 72 rfl 3 dX10_turn_71 rfl rfl ?_
      refine V_iload_n 73 rfl 2 dX10_turn_72 rfl rfl ?_
      refine V_iadd 74 rfl dX10_turn_73 ?_
      refine V_iconst 75 rfl (v := 1) dX10_turn_74 (by decide) ?_
      refine V_isub 76 rfl dX10_turn_75 ?_
      refine V_iload 78 rfl dX10_turn_76 rfl ?_
      refine V_isub 79 rfl dX10_turn_78 ?_
      obtain ⟨hi, h⟩ := zobd h
      refine V_iald 80 rfl dX10_turn_79 rfl hi ?_
      obtain ⟨hi, h⟩ := zobd h
      refine V_iast 81 rfl dX10_turn_80 rfl hi ?_
      refine V_aload_n 82 rfl 0 dX10_turn_81 rfl rfl ?_
      refine V_getr 85 rfl 38 0 dX10_turn_82 fl_X10_11 rfl rfl rfl ?_
      refine V_iload_n 86 rfl 3 dX10_turn_85 rfl rfl ?_
      refine V_iload_n 87 rfl 2 dX10_turn_86 rfl rfl ?_
      refine V_iadd 88 rfl dX10_turn_87 ?_
      refine V_iconst 89 rfl (v := 1) dX10_turn_88 (by decide) ?_
      refine V_isub 90 rfl dX10_turn_89 ?_
      refine V_iload 92 rfl dX10_turn_90 rfl ?_
      refine V_isub 93 rfl dX10_turn_92 ?_
      refine V_iload 95 rfl dX10_turn_93 rfl ?_
      obtain ⟨hi, h⟩ := zobd h
      refine V_iast 96 rfl dX10_turn_95 rfl hi ?_
      refine V_iinc 99 rfl (s.1 + 1) (L' := [some (zK 10 0), none, some (zI v2), some (zI v3), some (zI (s.1 + 1)), some (zI (gi s.2 38 0 (zn ((v3 + s.1)))))]) dX10_turn_96 rfl rfl (by decide) rfl ?_
      refine V_goto 40 dX10_turn_99 (by decide) ?_
      exact V_w (zsub_s (zsub_s (zsub_s (zsub_s (zsub_s (zsub_n zsub_0)))))) (kc ((s.1 + 1), (wi ((wi s.2 38 0 (zn ((v3 + s.1))) ((gi s.2 38 0 (zn ((((((v3 + v2)) - 1)) - s.1))))))) 38 0 (zn ((((((v3 + v2)) - 1)) - s.1))) ((gi s.2 38 0 (zn ((v3 + s.1))))))) (zinj h))
theorem wX10_turn {E : zE} {d : Nat} (hd : 3 ≤ d) {Q : Option zV → zM → Prop} {v1 : Int32} {mm : zM} {o : (Int32 × zM)} (h : fX10_turn v1 mm = some o) (hQ : ∀ r, o = r → Q (some (zI r.1)) r.2) : V E RX10 cX10_turn 6 (some .int) d Q 0 [some (zK 10 0), some (zI v1), none, none, none, none] [] mm := by
  unfold fX10_turn at h
  refine V_aload_n 1 rfl 0 dX10_turn_0 rfl rfl ?_
  refine V_iload_n 2 rfl 1 dX10_turn_1 rfl rfl ?_
  obtain ⟨x1, h1, h⟩ := zbd h
  refine V_cV 5 rfl 2 [zI v1] [] dX10_turn_2 cv_X10_258 (ctX10_isType (Nat.le_refl 2) h1) (Nat.le_trans (by decide) hd) rfl rfl (Nat.le_of_ble_eq_true rfl) zoki rfl ?_
  refine V_if_ne 8 10 rfl dX10_turn_5 (by decide) (fun c => ?_) (fun c => ?_)
  · have h := zneg c h
    refine V_aload_n 11 rfl 0 dX10_turn_10 rfl rfl ?_
    refine V_iload_n 12 rfl 1 dX10_turn_11 rfl rfl ?_
    obtain ⟨x2, h1, h⟩ := zbd h
    refine V_cV 15 rfl 0 [zI v1] [] dX10_turn_12 cv_X10_237 (ctX10_parents (Nat.le_refl 0) h1) (Nat.le_trans (by decide) hd) rfl rfl (Nat.le_of_ble_eq_true rfl) zoki rfl ?_
    refine V_istore_n 16 rfl 2 (L' := [some (zK 10 0), some (zI v1), some (zI x2), none, none, none]) dX10_turn_15 rfl (by decide) rfl ?_
    refine V_iload_n 17 rfl 2 dX10_turn_16 rfl rfl ?_
    refine V_iconst 18 rfl (v := 2) dX10_turn_17 (by decide) ?_
    refine V_icmp_ge 21 24 rfl dX10_turn_18 (by decide) (fun c => ?_) (fun c => ?_)
    · have h := zpos c h
      refine V_aload_n 25 rfl 0 dX10_turn_24 rfl rfl ?_
      obtain ⟨x3, h1, h⟩ := zbd h
      refine V_cV 28 rfl 1 [] [] dX10_turn_25 cv_X10_264 (ctX10_keepsPast (Nat.le_refl 1) h1) (Nat.le_trans (by decide) hd) rfl rfl (Nat.le_of_ble_eq_true rfl) zokn rfl ?_
      refine V_bipush 30 rfl (v := 113) dX10_turn_28 (by decide) ?_
      refine V_iload_n 31 rfl 1 dX10_turn_30 rfl rfl ?_
      refine V_imul 32 rfl dX10_turn_31 ?_
      refine V_iconst 33 rfl (v := 2) dX10_turn_32 (by decide) ?_
      refine V_iadd 34 rfl dX10_turn_33 ?_
      refine V_iconst 35 rfl (v := 1) dX10_turn_34 (by decide) ?_
      refine V_iadd 36 rfl dX10_turn_35 ?_
      refine V_istore_n 37 rfl 3 (L' := [some (zK 10 0), some (zI v1), some (zI x2), some (zI (((((113 * v1)) + 2)) + 1)), none, none]) dX10_turn_36 rfl (by decide) rfl ?_
      refine V_iconst 38 rfl (v := 0) dX10_turn_37 (by decide) ?_
      refine V_istore 40 rfl (L' := [some (zK 10 0), some (zI v1), some (zI x2), some (zI (((((113 * v1)) + 2)) + 1)), some (zI 0), none]) dX10_turn_38 (by decide) rfl ?_
      obtain ⟨o6, h1, h⟩ := zbd h
      refine V_w (zsub_s (zsub_n (zsub_s (zsub_s (zsub_s (zsub_s zsub_0)))))) (wX10_turn_L40 hd h1 (fun y4 e => ?_))
      have h := zcl_ e h
      refine V_iload_n 103 rfl 2 dX10_turn_102 rfl rfl ?_
      exact V_iret dX10_turn_103 rfl (hQ ((x2, y4)) (zinj h))
    · have h := zneg c h
      refine V_bipush 23 rfl (v := (-2)) dX10_turn_21 (by decide) ?_
      exact V_iret dX10_turn_23 rfl (hQ (((-2), mm)) (zinj h))
  · have h := zpos c h
    refine V_iconst 9 rfl (v := (-1)) dX10_turn_8 (by decide) ?_
    exact V_iret dX10_turn_9 rfl (hQ (((-1), mm)) (zinj h))
theorem ctX10_turn {E : zE} {d : Nat} (hd : 3 ≤ d) {v1 : Int32} {mm : zM} {o : (Int32 × zM)} (h : fX10_turn v1 mm = some o) : zOC E yX10_turn cX10_turn 6 (some .int) d [zK 10 0, zI v1] mm (some (zI o.1)) o.2 :=
  zCT_of (by decide) (Nat.le_of_ble_eq_true rfl) (zk_k (zk_i zk_0)) rfl (wX10_turn hd h (fun r e => ⟨by rw [e], by rw [e]⟩))
def fX10_owns (v1 : Int32) (mm : zM) : Option Int32 :=
  zob (zin ((((113 * v1)) + 64)) 1357) (some ((gi mm 38 0 (zn ((((113 * v1)) + 64))))))
theorem wX10_owns {E : zE} {d : Nat} (hd : 0 ≤ d) {Q : Option zV → zM → Prop} {v1 : Int32} {mm : zM} {o : Int32} (h : fX10_owns v1 mm = some o) (hQ : ∀ r, o = r → Q (some (zI r)) mm) : V E RX10 cX10_owns 2 (some .int) d Q 0 [some (zK 10 0), some (zI v1)] [] mm := by
  unfold fX10_owns at h
  refine V_aload_n 1 rfl 0 dX10_owns_0 rfl rfl ?_
  refine V_getr 4 rfl 38 0 dX10_owns_1 fl_X10_11 rfl rfl rfl ?_
  refine V_bipush 6 rfl (v := 113) dX10_owns_4 (by decide) ?_
  refine V_iload_n 7 rfl 1 dX10_owns_6 rfl rfl ?_
  refine V_imul 8 rfl dX10_owns_7 ?_
  refine V_bipush 10 rfl (v := 64) dX10_owns_8 (by decide) ?_
  refine V_iadd 11 rfl dX10_owns_10 ?_
  obtain ⟨hi, h⟩ := zobd h
  refine V_iald 12 rfl dX10_owns_11 rfl hi ?_
  exact V_iret dX10_owns_12 rfl (hQ ((gi mm 38 0 (zn ((((113 * v1)) + 64))))) (zinj h))
theorem ctX10_owns {E : zE} {d : Nat} (hd : 0 ≤ d) {v1 : Int32} {mm : zM} {o : Int32} (h : fX10_owns v1 mm = some o) : zOC E yX10_owns cX10_owns 2 (some .int) d [zK 10 0, zI v1] mm (some (zI o)) mm :=
  zCT_of (by decide) (Nat.le_of_ble_eq_true rfl) (zk_k (zk_i zk_0)) rfl (wX10_owns hd h (fun r e => ⟨by rw [e], rfl⟩))
def fX10_ownOf_L2 (v1 : Int32) (v2 : Int32) (mm : zM) (s : Int32) : Option (Int32 ⊕ (Unit ⊕ Int32)) :=
  (fX10_owns v1 mm).bind (fun x1 => if x1 ≤ s then (some (.inr (.inl ()))) else ((fX10_ownAt v1 s mm).bind (fun x2 => zob (zin x2 1357) (if (gi mm 38 0 (zn x2)) = v2 then (some (.inr (.inr s))) else (some (.inl (s + 1)))))))
def fX10_ownOf (v1 : Int32) (v2 : Int32) (mm : zM) : Option Int32 :=
  (zloop (fX10_ownOf_L2 v1 v2 mm) zF 0).bind (fun o5 => zcase o5 (fun y3 => some ((-1))) (fun r4 => some r4))
theorem wX10_ownOf_L2 {E : zE} {d : Nat} (hd : 1 ≤ d) {Q : Option zV → zM → Prop} {v1 : Int32} {v2 : Int32} {mm : zM} {n : Nat} {s : Int32} {o : Unit ⊕ Int32} (h : zloop (fX10_ownOf_L2 v1 v2 mm) n s = some o) (he : ∀ y : Unit, o = .inl y → V E RX10 cX10_ownOf 4 (some .int) d Q 33 [none, none, none, none] [] mm) (hr : ∀ r : Int32, o = .inr r → Q (some (zI r)) mm) : V E RX10 cX10_ownOf 4 (some .int) d Q 2 [some (zK 10 0), some (zI v1), some (zI v2), some (zI s)] [] mm := by
  induction n generalizing s with
  | zero => exact (zloop_0 h).elim
  | succ n ih =>
    obtain ⟨o1, h1, hc1, he1⟩ := zloop_s h
    have kc : ∀ s' : Int32, o1 = .inl s' → V E RX10 cX10_ownOf 4 (some .int) d Q 2 [some (zK 10 0), some (zI v1), some (zI v2), some (zI s')] [] mm := fun s' e => ih (hc1 s' e)
    have ke : ∀ y : Unit, o1 = .inr (.inl y) → V E RX10 cX10_ownOf 4 (some .int) d Q 33 [none, none, none, none] [] mm := fun y e => he y (he1 _ e)
    have kr : ∀ r : Int32, o1 = .inr (.inr r) → Q (some (zI r)) mm := fun r e => hr r (he1 _ e)
    clear h hc1 he1 ih
    have h := h1
    clear h1
    unfold fX10_ownOf_L2 at h
    refine V_iload_n 3 rfl 3 dX10_ownOf_2 rfl rfl ?_
    refine V_aload_n 4 rfl 0 dX10_ownOf_3 rfl rfl ?_
    refine V_iload_n 5 rfl 1 dX10_ownOf_4 rfl rfl ?_
    obtain ⟨x1, h1, h⟩ := zbd h
    refine V_cV 8 rfl 0 [zI v1] [zI s] dX10_ownOf_5 cv_X10_207 (ctX10_owns (Nat.le_refl 0) h1) (Nat.le_trans (by decide) hd) rfl rfl (Nat.le_of_ble_eq_true rfl) zoki rfl ?_
    refine V_icmp_ge 11 33 rfl dX10_ownOf_8 (by decide) (fun c => ?_) (fun c => ?_)
    · have h := zpos c h
      exact V_w (zsub_n (zsub_n (zsub_n (zsub_n zsub_0)))) (ke () (zinj h))
    · have h := zneg c h
      refine V_aload_n 12 rfl 0 dX10_ownOf_11 rfl rfl ?_
      refine V_getr 15 rfl 38 0 dX10_ownOf_12 fl_X10_11 rfl rfl rfl ?_
      refine V_iload_n 16 rfl 1 dX10_ownOf_15 rfl rfl ?_
      refine V_iload_n 17 rfl 3 dX10_ownOf_16 rfl rfl ?_
      obtain ⟨x2, h1, h⟩ := zbd h
      refine V_cS 20 rfl 0 [zI v1, zI s] [zK 38 0] dX10_ownOf_17 cs_X10_168 (ctX10_ownAt (Nat.le_refl 0) h1) (Nat.le_trans (by decide) hd) rfl rfl (Nat.le_of_ble_eq_true rfl) zoki rfl ?_
      obtain ⟨hi, h⟩ := zobd h
      refine V_iald 21 rfl dX10_ownOf_20 rfl hi ?_
      refine V_iload_n 22 rfl 2 dX10_ownOf_21 rfl rfl ?_
      refine V_icmp_ne 25 27 rfl dX10_ownOf_22 (by decide) (fun c => ?_) (fun c => ?_)
      · have h := zneg c h
        refine V_iinc 30 rfl (s + 1) (L' := [some (zK 10 0), some (zI v1), some (zI v2), some (zI (s + 1))]) dX10_ownOf_27 rfl rfl (by decide) rfl ?_
        refine V_goto 2 dX10_ownOf_30 (by decide) ?_
        exact kc (s + 1) (zinj h)
      · have h := zpos c h
        refine V_iload_n 26 rfl 3 dX10_ownOf_25 rfl rfl ?_
        exact V_iret dX10_ownOf_26 rfl (kr s (zinj h))
theorem wX10_ownOf {E : zE} {d : Nat} (hd : 1 ≤ d) {Q : Option zV → zM → Prop} {v1 : Int32} {v2 : Int32} {mm : zM} {o : Int32} (h : fX10_ownOf v1 v2 mm = some o) (hQ : ∀ r, o = r → Q (some (zI r)) mm) : V E RX10 cX10_ownOf 4 (some .int) d Q 0 [some (zK 10 0), some (zI v1), some (zI v2), none] [] mm := by
  unfold fX10_ownOf at h
  refine V_iconst 1 rfl (v := 0) dX10_ownOf_0 (by decide) ?_
  refine V_istore_n 2 rfl 3 (L' := [some (zK 10 0), some (zI v1), some (zI v2), some (zI 0)]) dX10_ownOf_1 rfl (by decide) rfl ?_
  obtain ⟨o5, h1, h⟩ := zbd h
  refine wX10_ownOf_L2 hd h1 (fun y3 e => ?_) (fun r e => by have h := zcr_ e h; exact hQ r (zinj h))
  have h := zcl_ e h
  refine V_iconst 34 rfl (v := (-1)) dX10_ownOf_33 (by decide) ?_
  exact V_iret dX10_ownOf_34 rfl (hQ ((-1)) (zinj h))
theorem ctX10_ownOf {E : zE} {d : Nat} (hd : 1 ≤ d) {v1 : Int32} {v2 : Int32} {mm : zM} {o : Int32} (h : fX10_ownOf v1 v2 mm = some o) : zOC E yX10_ownOf cX10_ownOf 4 (some .int) d [zK 10 0, zI v1, zI v2] mm (some (zI o)) mm :=
  zCT_of (by decide) (Nat.le_of_ble_eq_true rfl) (zk_k (zk_i (zk_i zk_0))) rfl (wX10_ownOf hd h (fun r e => ⟨by rw [e], rfl⟩))
def fX10_tells_J194 (s0 : Int32) (mm : zM) : Option (Int32 × zM) :=
  (fX10_truth s0 mm).bind (fun x4 => some ((x4, mm)))
def fX10_tells_J182 (v4 : Int32) (s0 : Int32) (s1 : Int32) (mm : zM) : Option (Int32 × zM) :=
  zob (zin s1 1357) (if v4 = (-1) then (fX10_tells_J194 0 ((wi mm 38 0 (zn s1) s0))) else (fX10_tells_J194 1 ((wi mm 38 0 (zn s1) s0))))
def fX10_tells_J163 (v3 : Int32) (v4 : Int32) (v5 : Int32) (s0 : Int32) (s1 : Int32) (mm : zM) : Option (Int32 × zM) :=
  zob (zin s1 1357) (if v3 = (-1) then (fX10_tells_J182 v4 0 ((v5 + 2)) ((wi mm 38 0 (zn s1) s0))) else (fX10_tells_J182 v4 v3 ((v5 + 2)) ((wi mm 38 0 (zn s1) s0))))
def fX10_tells_J145 (v3 : Int32) (v4 : Int32) (v5 : Int32) (mm : zM) : Option (Int32 × zM) :=
  if v3 = (-1) then (fX10_tells_J163 v3 v4 v5 0 ((v5 + 1)) mm) else (fX10_tells_J163 v3 v4 v5 1 ((v5 + 1)) mm)
def fX10_tells_J100 (v1 : Int32) (v2 : Int32) (v3 : Int32) (v4 : Int32) (v5 : Int32) (mm : zM) : Option (Int32 × zM) :=
  (fX10_keepsPast mm).bind (fun x3 => if v4 = (-1) then ((fX10_owns v1 x3).bind (fun x5 => (fX10_ownAt v1 x5 x3).bind (fun x6 => zob (zin ((((113 * v1)) + 64)) 1357) (zob (zin ((((113 * v1)) + 64)) 1357) (zob (zin x6 1357) (fX10_tells_J145 v3 v4 x6 ((wi ((wi x3 38 0 (zn ((((113 * v1)) + 64))) ((((gi x3 38 0 (zn ((((113 * v1)) + 64))))) + 1)))) 38 0 (zn x6) v2)))))))) else (fX10_tells_J145 v3 v4 v5 x3))
def fX10_tells_J81 (v1 : Int32) (v2 : Int32) (v3 : Int32) (v4 : Int32) (v5 : Int32) (mm : zM) : Option (Int32 × zM) :=
  if v4 = (-1) then ((fX10_owns v1 mm).bind (fun x7 => if x7 = 8 then (some (((-3), mm))) else (fX10_tells_J100 v1 v2 v3 v4 v5 mm))) else (fX10_tells_J100 v1 v2 v3 v4 v5 mm)
def fX10_tells_J24 (v1 : Int32) (v2 : Int32) (v3 : Int32) (v4 : Int32) (s0 : Int32) (mm : zM) : Option (Int32 × zM) :=
  if v4 = (-1) then (fX10_tells_J81 v1 v2 v3 v4 s0 mm) else (if v3 = (-1) then (zob (zin ((s0 + 1)) 1357) (if (gi mm 38 0 (zn ((s0 + 1)))) = 0 then (some (((-2), mm))) else (fX10_tells_J81 v1 v2 v3 v4 s0 mm))) else (zob (zin ((s0 + 1)) 1357) (if (gi mm 38 0 (zn ((s0 + 1)))) = 1 then (zob (zin ((s0 + 2)) 1357) (if (gi mm 38 0 (zn ((s0 + 2)))) = v3 then (some (((-2), mm))) else (fX10_tells_J81 v1 v2 v3 v4 s0 mm))) else (fX10_tells_J81 v1 v2 v3 v4 s0 mm))))
def fX10_tells (v1 : Int32) (v2 : Int32) (v3 : Int32) (mm : zM) : Option (Int32 × zM) :=
  (fX10_ownOf v1 v2 mm).bind (fun x1 => if x1 = (-1) then (fX10_tells_J24 v1 v2 v3 x1 ((-1)) mm) else ((fX10_ownAt v1 x1 mm).bind (fun x2 => fX10_tells_J24 v1 v2 v3 x1 x2 mm)))
theorem wX10_tells_J194 {E : zE} {d : Nat} (hd : 2 ≤ d) {Q : Option zV → zM → Prop} {s0 : Int32} {mm : zM} {o : (Int32 × zM)} (h : fX10_tells_J194 s0 mm = some o) (hQ : ∀ r, o = r → Q (some (zI r.1)) r.2) : V E RX10 cX10_tells 6 (some .int) d Q 194 [none, none, none, none, none, none] [zI s0] mm := by
  unfold fX10_tells_J194 at h
  obtain ⟨x4, h1, h⟩ := zbd h
  refine V_cS 197 rfl 0 [zI s0] [] dX10_tells_194 cs_X10_104 (ctX10_truth (Nat.le_refl 0) h1) (Nat.le_trans (by decide) hd) rfl rfl (Nat.le_of_ble_eq_true rfl) zoki rfl ?_
  exact V_iret dX10_tells_197 rfl (hQ ((x4, mm)) (zinj h))
theorem wX10_tells_J182 {E : zE} {d : Nat} (hd : 2 ≤ d) {Q : Option zV → zM → Prop} {v4 : Int32} {s0 : Int32} {s1 : Int32} {mm : zM} {o : (Int32 × zM)} (h : fX10_tells_J182 v4 s0 s1 mm = some o) (hQ : ∀ r, o = r → Q (some (zI r.1)) r.2) : V E RX10 cX10_tells 6 (some .int) d Q 182 [none, none, none, none, some (zI v4), none] [zI s0, zI s1, zK 38 0] mm := by
  unfold fX10_tells_J182 at h
  obtain ⟨hi, h⟩ := zobd h
  refine V_iast 183 rfl dX10_tells_182 rfl hi ?_
  refine V_iload 185 rfl dX10_tells_183 rfl ?_
  refine V_iconst 186 rfl (v := (-1)) dX10_tells_185 (by decide) ?_
  refine V_icmp_eq 189 193 rfl dX10_tells_186 (by decide) (fun c => ?_) (fun c => ?_)
  · have h := zpos c h
    refine V_iconst 194 rfl (v := 0) dX10_tells_193 (by decide) ?_
    exact V_w (zsub_s (zsub_s (zsub_s (zsub_s (zsub_n (zsub_s zsub_0)))))) (wX10_tells_J194 hd h hQ)
  · have h := zneg c h
    refine V_iconst 190 rfl (v := 1) dX10_tells_189 (by decide) ?_
    refine V_goto 194 dX10_tells_190 (by decide) ?_
    exact V_w (zsub_s (zsub_s (zsub_s (zsub_s (zsub_n (zsub_s zsub_0)))))) (wX10_tells_J194 hd h hQ)
theorem wX10_tells_J163 {E : zE} {d : Nat} (hd : 2 ≤ d) {Q : Option zV → zM → Prop} {v3 : Int32} {v4 : Int32} {v5 : Int32} {s0 : Int32} {s1 : Int32} {mm : zM} {o : (Int32 × zM)} (h : fX10_tells_J163 v3 v4 v5 s0 s1 mm = some o) (hQ : ∀ r, o = r → Q (some (zI r.1)) r.2) : V E RX10 cX10_tells 6 (some .int) d Q 163 [some (zK 10 0), none, none, some (zI v3), some (zI v4), some (zI v5)] [zI s0, zI s1, zK 38 0] mm := by
  unfold fX10_tells_J163 at h
  obtain ⟨hi, h⟩ := zobd h
  refine V_iast 164 rfl dX10_tells_163 rfl hi ?_
  refine V_aload_n 165 rfl 0 dX10_tells_164 rfl rfl ?_
  refine V_getr 168 rfl 38 0 dX10_tells_165 fl_X10_11 rfl rfl rfl ?_
  refine V_iload 170 rfl dX10_tells_168 rfl ?_
  refine V_iconst 171 rfl (v := 2) dX10_tells_170 (by decide) ?_
  refine V_iadd 172 rfl dX10_tells_171 ?_
  refine V_iload_n 173 rfl 3 dX10_tells_172 rfl rfl ?_
  refine V_iconst 174 rfl (v := (-1)) dX10_tells_173 (by decide) ?_
  refine V_icmp_ne 177 181 rfl dX10_tells_174 (by decide) (fun c => ?_) (fun c => ?_)
  · have h := zneg c h
    refine V_iload_n 182 rfl 3 dX10_tells_181 rfl rfl ?_
    exact V_w (zsub_n (zsub_s (zsub_s (zsub_n (zsub_s (zsub_n zsub_0)))))) (wX10_tells_J182 hd h hQ)
  · have h := zpos c h
    refine V_iconst 178 rfl (v := 0) dX10_tells_177 (by decide) ?_
    refine V_goto 182 dX10_tells_178 (by decide) ?_
    exact V_w (zsub_n (zsub_s (zsub_s (zsub_n (zsub_s (zsub_n zsub_0)))))) (wX10_tells_J182 hd h hQ)
theorem wX10_tells_J145 {E : zE} {d : Nat} (hd : 2 ≤ d) {Q : Option zV → zM → Prop} {v3 : Int32} {v4 : Int32} {v5 : Int32} {mm : zM} {o : (Int32 × zM)} (h : fX10_tells_J145 v3 v4 v5 mm = some o) (hQ : ∀ r, o = r → Q (some (zI r.1)) r.2) : V E RX10 cX10_tells 6 (some .int) d Q 145 [some (zK 10 0), none, none, some (zI v3), some (zI v4), some (zI v5)] [] mm := by
  unfold fX10_tells_J145 at h
  refine V_aload_n 146 rfl 0 dX10_tells_145 rfl rfl ?_
  refine V_getr 149 rfl 38 0 dX10_tells_146 fl_X10_11 rfl rfl rfl ?_
  refine V_iload 151 rfl dX10_tells_149 rfl ?_
  refine V_iconst 152 rfl (v := 1) dX10_tells_151 (by decide) ?_
  refine V_iadd 153 rfl dX10_tells_152 ?_
  refine V_iload_n 154 rfl 3 dX10_tells_153 rfl rfl ?_
  refine V_iconst 155 rfl (v := (-1)) dX10_tells_154 (by decide) ?_
  refine V_icmp_ne 158 162 rfl dX10_tells_155 (by decide) (fun c => ?_) (fun c => ?_)
  · have h := zneg c h
    refine V_iconst 163 rfl (v := 1) dX10_tells_162 (by decide) ?_
    exact wX10_tells_J163 hd h hQ
  · have h := zpos c h
    refine V_iconst 159 rfl (v := 0) dX10_tells_158 (by decide) ?_
    refine V_goto 163 dX10_tells_159 (by decide) ?_
    exact wX10_tells_J163 hd h hQ
theorem wX10_tells_J100 {E : zE} {d : Nat} (hd : 2 ≤ d) {Q : Option zV → zM → Prop} {v1 : Int32} {v2 : Int32} {v3 : Int32} {v4 : Int32} {v5 : Int32} {mm : zM} {o : (Int32 × zM)} (h : fX10_tells_J100 v1 v2 v3 v4 v5 mm = some o) (hQ : ∀ r, o = r → Q (some (zI r.1)) r.2) : V E RX10 cX10_tells 6 (some .int) d Q 100 [some (zK 10 0), some (zI v1), some (zI v2), some (zI v3), some (zI v4), some (zI v5)] [] mm := by
  unfold fX10_tells_J100 at h
  refine V_aload_n 101 rfl 0 dX10_tells_100 rfl rfl ?_
  obtain ⟨x3, h1, h⟩ := zbd h
  refine V_cV 104 rfl 1 [] [] dX10_tells_101 cv_X10_264 (ctX10_keepsPast (Nat.le_refl 1) h1) (Nat.le_trans (by decide) hd) rfl rfl (Nat.le_of_ble_eq_true rfl) zokn rfl ?_
  refine V_iload 106 rfl dX10_tells_104 rfl ?_
  refine V_iconst 107 rfl (v := (-1)) dX10_tells_106 (by decide) ?_
  refine V_icmp_ne 110 145 rfl dX10_tells_107 (by decide) (fun c => ?_) (fun c => ?_)
  · have h := zneg c h
    exact V_w (zsub_s (zsub_n (zsub_n (zsub_s (zsub_s (zsub_s zsub_0)))))) (wX10_tells_J145 hd h hQ)
  · have h := zpos c h
    refine V_iload_n 111 rfl 1 dX10_tells_110 rfl rfl ?_
    refine V_aload_n 112 rfl 0 dX10_tells_111 rfl rfl ?_
    refine V_iload_n 113 rfl 1 dX10_tells_112 rfl rfl ?_
    obtain ⟨x5, h1, h⟩ := zbd h
    refine V_cV 116 rfl 0 [zI v1] [zI v1] dX10_tells_113 cv_X10_207 (ctX10_owns (Nat.le_refl 0) h1) (Nat.le_trans (by decide) hd) rfl rfl (Nat.le_of_ble_eq_true rfl) zoki rfl ?_
    obtain ⟨x6, h1, h⟩ := zbd h
    refine V_cS 119 rfl 0 [zI v1, zI x5] [] dX10_tells_116 cs_X10_168 (ctX10_ownAt (Nat.le_refl 0) h1) (Nat.le_trans (by decide) hd) rfl rfl (Nat.le_of_ble_eq_true rfl) zoki rfl ?_
    refine V_istore 121 rfl (L' := [some (zK 10 0), some (zI v1), some (zI v2), some (zI v3), some (zI v4), some (zI x6)]) dX10_tells_119 (by decide) rfl ?_
    refine V_aload_n 122 rfl 0 dX10_tells_121 rfl rfl ?_
    refine V_getr 125 rfl 38 0 dX10_tells_122 fl_X10_11 rfl rfl rfl ?_
    refine V_bipush 127 rfl (v := 113) dX10_tells_125 (by decide) ?_
    refine V_iload_n 128 rfl 1 dX10_tells_127 rfl rfl ?_
    refine V_imul 129 rfl dX10_tells_128 ?_
    refine V_bipush 131 rfl (v := 64) dX10_tells_129 (by decide) ?_
    refine V_iadd 132 rfl dX10_tells_131 ?_
    refine V_dup2 133 rfl dX10_tells_132 rfl rfl ?_
    obtain ⟨hi, h⟩ := zobd h
    refine V_iald 134 rfl dX10_tells_133 rfl hi ?_
    refine V_iconst 135 rfl (v := 1) dX10_tells_134 (by decide) ?_
    refine V_iadd 136 rfl dX10_tells_135 ?_
    obtain ⟨hi, h⟩ := zobd h
    refine V_iast 137 rfl dX10_tells_136 rfl hi ?_
    refine V_aload_n 138 rfl 0 dX10_tells_137 rfl rfl ?_
    refine V_getr 141 rfl 38 0 dX10_tells_138 fl_X10_11 rfl rfl rfl ?_
    refine V_iload 143 rfl dX10_tells_141 rfl ?_
    refine V_iload_n 144 rfl 2 dX10_tells_143 rfl rfl ?_
    obtain ⟨hi, h⟩ := zobd h
    refine V_iast 145 rfl dX10_tells_144 rfl hi ?_
    exact V_w (zsub_s (zsub_n (zsub_n (zsub_s (zsub_s (zsub_s zsub_0)))))) (wX10_tells_J145 hd h hQ)
theorem wX10_tells_J81 {E : zE} {d : Nat} (hd : 2 ≤ d) {Q : Option zV → zM → Prop} {v1 : Int32} {v2 : Int32} {v3 : Int32} {v4 : Int32} {v5 : Int32} {mm : zM} {o : (Int32 × zM)} (h : fX10_tells_J81 v1 v2 v3 v4 v5 mm = some o) (hQ : ∀ r, o = r → Q (some (zI r.1)) r.2) : V E RX10 cX10_tells 6 (some .int) d Q 81 [some (zK 10 0), some (zI v1), some (zI v2), some (zI v3), some (zI v4), some (zI v5)] [] mm := by
  unfold fX10_tells_J81 at h
  refine V_iload 83 rfl dX10_tells_81 rfl ?_
  refine V_iconst 84 rfl (v := (-1)) dX10_tells_83 (by decide) ?_
  refine V_icmp_ne 87 100 rfl dX10_tells_84 (by decide) (fun c => ?_) (fun c => ?_)
  · have h := zneg c h
    exact wX10_tells_J100 hd h hQ
  · have h := zpos c h
    refine V_aload_n 88 rfl 0 dX10_tells_87 rfl rfl ?_
    refine V_iload_n 89 rfl 1 dX10_tells_88 rfl rfl ?_
    obtain ⟨x7, h1, h⟩ := zbd h
    refine V_cV 92 rfl 0 [zI v1] [] dX10_tells_89 cv_X10_207 (ctX10_owns (Nat.le_refl 0) h1) (Nat.le_trans (by decide) hd) rfl rfl (Nat.le_of_ble_eq_true rfl) zoki rfl ?_
    refine V_bipush 94 rfl (v := 8) dX10_tells_92 (by decide) ?_
    refine V_icmp_ne 97 100 rfl dX10_tells_94 (by decide) (fun c => ?_) (fun c => ?_)
    · have h := zneg c h
      exact wX10_tells_J100 hd h hQ
    · have h := zpos c h
      refine V_bipush 99 rfl (v := (-3)) dX10_tells_97 (by decide) ?_
      exact V_iret dX10_tells_99 rfl (hQ (((-3), mm)) (zinj h))
theorem wX10_tells_J24 {E : zE} {d : Nat} (hd : 2 ≤ d) {Q : Option zV → zM → Prop} {v1 : Int32} {v2 : Int32} {v3 : Int32} {v4 : Int32} {s0 : Int32} {mm : zM} {o : (Int32 × zM)} (h : fX10_tells_J24 v1 v2 v3 v4 s0 mm = some o) (hQ : ∀ r, o = r → Q (some (zI r.1)) r.2) : V E RX10 cX10_tells 6 (some .int) d Q 24 [some (zK 10 0), some (zI v1), some (zI v2), some (zI v3), some (zI v4), none] [zI s0] mm := by
  unfold fX10_tells_J24 at h
  refine V_istore 26 rfl (L' := [some (zK 10 0), some (zI v1), some (zI v2), some (zI v3), some (zI v4), some (zI s0)]) dX10_tells_24 (by decide) rfl ?_
  refine V_iload 28 rfl dX10_tells_26 rfl ?_
  refine V_iconst 29 rfl (v := (-1)) dX10_tells_28 (by decide) ?_
  refine V_icmp_eq 32 81 rfl dX10_tells_29 (by decide) (fun c => ?_) (fun c => ?_)
  · have h := zpos c h
    exact wX10_tells_J81 hd h hQ
  · have h := zneg c h
    refine V_iload_n 33 rfl 3 dX10_tells_32 rfl rfl ?_
    refine V_iconst 34 rfl (v := (-1)) dX10_tells_33 (by decide) ?_
    refine V_icmp_ne 37 52 rfl dX10_tells_34 (by decide) (fun c => ?_) (fun c => ?_)
    · have h := zneg c h
      refine V_aload_n 53 rfl 0 dX10_tells_52 rfl rfl ?_
      refine V_getr 56 rfl 38 0 dX10_tells_53 fl_X10_11 rfl rfl rfl ?_
      refine V_iload 58 rfl dX10_tells_56 rfl ?_
      refine V_iconst 59 rfl (v := 1) dX10_tells_58 (by decide) ?_
      refine V_iadd 60 rfl dX10_tells_59 ?_
      obtain ⟨hi, h⟩ := zobd h
      refine V_iald 61 rfl dX10_tells_60 rfl hi ?_
      refine V_iconst 62 rfl (v := 1) dX10_tells_61 (by decide) ?_
      refine V_icmp_ne 65 81 rfl dX10_tells_62 (by decide) (fun c => ?_) (fun c => ?_)
      · have h := zneg c h
        exact wX10_tells_J81 hd h hQ
      · have h := zpos c h
        refine V_aload_n 66 rfl 0 dX10_tells_65 rfl rfl ?_
        refine V_getr 69 rfl 38 0 dX10_tells_66 fl_X10_11 rfl rfl rfl ?_
        refine V_iload 71 rfl dX10_tells_69 rfl ?_
        refine V_iconst 72 rfl (v := 2) dX10_tells_71 (by decide) ?_
        refine V_iadd 73 rfl dX10_tells_72 ?_
        obtain ⟨hi, h⟩ := zobd h
        refine V_iald 74 rfl dX10_tells_73 rfl hi ?_
        refine V_iload_n 75 rfl 3 dX10_tells_74 rfl rfl ?_
        refine V_icmp_ne 78 81 rfl dX10_tells_75 (by decide) (fun c => ?_) (fun c => ?_)
        · have h := zneg c h
          exact wX10_tells_J81 hd h hQ
        · have h := zpos c h
          refine V_bipush 80 rfl (v := (-2)) dX10_tells_78 (by decide) ?_
          exact V_iret dX10_tells_80 rfl (hQ (((-2), mm)) (zinj h))
    · have h := zpos c h
      refine V_aload_n 38 rfl 0 dX10_tells_37 rfl rfl ?_
      refine V_getr 41 rfl 38 0 dX10_tells_38 fl_X10_11 rfl rfl rfl ?_
      refine V_iload 43 rfl dX10_tells_41 rfl ?_
      refine V_iconst 44 rfl (v := 1) dX10_tells_43 (by decide) ?_
      refine V_iadd 45 rfl dX10_tells_44 ?_
      obtain ⟨hi, h⟩ := zobd h
      refine V_iald 46 rfl dX10_tells_45 rfl hi ?_
      refine V_if_ne 49 81 rfl dX10_tells_46 (by decide) (fun c => ?_) (fun c => ?_)
      · have h := zneg c h
        exact wX10_tells_J81 hd h hQ
      · have h := zpos c h
        refine V_goto 78 dX10_tells_49 (by decide) ?_
        refine V_bipush 80 rfl (v := (-2)) dX10_tells_78 (by decide) ?_
        exact V_iret dX10_tells_80 rfl (hQ (((-2), mm)) (zinj h))
theorem wX10_tells {E : zE} {d : Nat} (hd : 2 ≤ d) {Q : Option zV → zM → Prop} {v1 : Int32} {v2 : Int32} {v3 : Int32} {mm : zM} {o : (Int32 × zM)} (h : fX10_tells v1 v2 v3 mm = some o) (hQ : ∀ r, o = r → Q (some (zI r.1)) r.2) : V E RX10 cX10_tells 6 (some .int) d Q 0 [some (zK 10 0), some (zI v1), some (zI v2), some (zI v3), none, none] [] mm := by
  unfold fX10_tells at h
  refine V_aload_n 1 rfl 0 dX10_tells_0 rfl rfl ?_
  refine V_iload_n 2 rfl 1 dX10_tells_1 rfl rfl ?_
  refine V_iload_n 3 rfl 2 dX10_tells_2 rfl rfl ?_
  obtain ⟨x1, h1, h⟩ := zbd h
  refine V_cV 6 rfl 1 [zI v1, zI v2] [] dX10_tells_3 cv_X10_267 (ctX10_ownOf (Nat.le_refl 1) h1) (Nat.le_trans (by decide) hd) rfl rfl (Nat.le_of_ble_eq_true rfl) zoki rfl ?_
  refine V_istore 8 rfl (L' := [some (zK 10 0), some (zI v1), some (zI v2), some (zI v3), some (zI x1), none]) dX10_tells_6 (by decide) rfl ?_
  refine V_iload 10 rfl dX10_tells_8 rfl ?_
  refine V_iconst 11 rfl (v := (-1)) dX10_tells_10 (by decide) ?_
  refine V_icmp_ne 14 18 rfl dX10_tells_11 (by decide) (fun c => ?_) (fun c => ?_)
  · have h := zneg c h
    refine V_iload_n 19 rfl 1 dX10_tells_18 rfl rfl ?_
    refine V_iload 21 rfl dX10_tells_19 rfl ?_
    obtain ⟨x2, h1, h⟩ := zbd h
    refine V_cS 24 rfl 0 [zI v1, zI x1] [] dX10_tells_21 cs_X10_168 (ctX10_ownAt (Nat.le_refl 0) h1) (Nat.le_trans (by decide) hd) rfl rfl (Nat.le_of_ble_eq_true rfl) zoki rfl ?_
    exact wX10_tells_J24 hd h hQ
  · have h := zpos c h
    refine V_iconst 15 rfl (v := (-1)) dX10_tells_14 (by decide) ?_
    refine V_goto 24 dX10_tells_15 (by decide) ?_
    exact wX10_tells_J24 hd h hQ
theorem ctX10_tells {E : zE} {d : Nat} (hd : 2 ≤ d) {v1 : Int32} {v2 : Int32} {v3 : Int32} {mm : zM} {o : (Int32 × zM)} (h : fX10_tells v1 v2 v3 mm = some o) : zOC E yX10_tells cX10_tells 6 (some .int) d [zK 10 0, zI v1, zI v2, zI v3] mm (some (zI o.1)) o.2 :=
  zCT_of (by decide) (Nat.le_of_ble_eq_true rfl) (zk_k (zk_i (zk_i (zk_i zk_0)))) rfl (wX10_tells hd h (fun r e => ⟨by rw [e], by rw [e]⟩))
def fX10_give (v1 : Int32) (v2 : Int32) (v3 : Int32) (mm : zM) : Option (Int32 × zM) :=
  (fX10_isUnit v1 mm).bind (fun x1 => if x1 = 0 then (some (((-1), mm))) else ((fX10_in v2 0 25 mm).bind (fun x2 => if x2 = 0 then (some (((-1), mm))) else ((fX10_in v3 0 999 mm).bind (fun x3 => if x3 = 0 then (some (((-1), mm))) else ((fX10_tells v1 v2 v3 mm).bind (fun x4 => some ((x4.1, x4.2)))))))))
theorem wX10_give {E : zE} {d : Nat} (hd : 3 ≤ d) {Q : Option zV → zM → Prop} {v1 : Int32} {v2 : Int32} {v3 : Int32} {mm : zM} {o : (Int32 × zM)} (h : fX10_give v1 v2 v3 mm = some o) (hQ : ∀ r, o = r → Q (some (zI r.1)) r.2) : V E RX10 cX10_give 4 (some .int) d Q 0 [some (zK 10 0), some (zI v1), some (zI v2), some (zI v3)] [] mm := by
  unfold fX10_give at h
  refine V_aload_n 1 rfl 0 dX10_give_0 rfl rfl ?_
  refine V_iload_n 2 rfl 1 dX10_give_1 rfl rfl ?_
  obtain ⟨x1, h1, h⟩ := zbd h
  refine V_cV 5 rfl 1 [zI v1] [] dX10_give_2 cv_X10_201 (ctX10_isUnit (Nat.le_refl 1) h1) (Nat.le_trans (by decide) hd) rfl rfl (Nat.le_of_ble_eq_true rfl) zoki rfl ?_
  refine V_if_eq 8 39 rfl dX10_give_5 (by decide) (fun c => ?_) (fun c => ?_)
  · have h := zpos c h
    refine V_iconst 40 rfl (v := (-1)) dX10_give_39 (by decide) ?_
    exact V_iret dX10_give_40 rfl (hQ (((-1), mm)) (zinj h))
  · have h := zneg c h
    refine V_iload_n 9 rfl 2 dX10_give_8 rfl rfl ?_
    refine V_iconst 10 rfl (v := 0) dX10_give_9 (by decide) ?_
    refine V_bipush 12 rfl (v := 25) dX10_give_10 (by decide) ?_
    obtain ⟨x2, h1, h⟩ := zbd h
    refine V_cS 15 rfl 0 [zI v2, zI 0, zI 25] [] dX10_give_12 cs_X10_88 (ctX10_in (Nat.le_refl 0) h1) (Nat.le_trans (by decide) hd) rfl rfl (Nat.le_of_ble_eq_true rfl) zoki rfl ?_
    refine V_if_eq 18 39 rfl dX10_give_15 (by decide) (fun c => ?_) (fun c => ?_)
    · have h := zpos c h
      refine V_iconst 40 rfl (v := (-1)) dX10_give_39 (by decide) ?_
      exact V_iret dX10_give_40 rfl (hQ (((-1), mm)) (zinj h))
    · have h := zneg c h
      refine V_iload_n 19 rfl 3 dX10_give_18 rfl rfl ?_
      refine V_iconst 20 rfl (v := 0) dX10_give_19 (by decide) ?_
      refine V_sipush 23 rfl (v := 999) dX10_give_20 (by decide) ?_
      obtain ⟨x3, h1, h⟩ := zbd h
      refine V_cS 26 rfl 0 [zI v3, zI 0, zI 999] [] dX10_give_23 cs_X10_88 (ctX10_in (Nat.le_refl 0) h1) (Nat.le_trans (by decide) hd) rfl rfl (Nat.le_of_ble_eq_true rfl) zoki rfl ?_
      refine V_if_eq 29 39 rfl dX10_give_26 (by decide) (fun c => ?_) (fun c => ?_)
      · have h := zpos c h
        refine V_iconst 40 rfl (v := (-1)) dX10_give_39 (by decide) ?_
        exact V_iret dX10_give_40 rfl (hQ (((-1), mm)) (zinj h))
      · have h := zneg c h
        refine V_aload_n 30 rfl 0 dX10_give_29 rfl rfl ?_
        refine V_iload_n 31 rfl 1 dX10_give_30 rfl rfl ?_
        refine V_iload_n 32 rfl 2 dX10_give_31 rfl rfl ?_
        refine V_iload_n 33 rfl 3 dX10_give_32 rfl rfl ?_
        obtain ⟨x4, h1, h⟩ := zbd h
        refine V_cV 36 rfl 2 [zI v1, zI v2, zI v3] [] dX10_give_33 cv_X10_270 (ctX10_tells (Nat.le_refl 2) h1) (Nat.le_trans (by decide) hd) rfl rfl (Nat.le_of_ble_eq_true rfl) zoki rfl ?_
        refine V_goto 40 dX10_give_36 (by decide) ?_
        exact V_iret dX10_give_40 rfl (hQ ((x4.1, x4.2)) (zinj h))
theorem ctX10_give {E : zE} {d : Nat} (hd : 3 ≤ d) {v1 : Int32} {v2 : Int32} {v3 : Int32} {mm : zM} {o : (Int32 × zM)} (h : fX10_give v1 v2 v3 mm = some o) : zOC E yX10_give cX10_give 4 (some .int) d [zK 10 0, zI v1, zI v2, zI v3] mm (some (zI o.1)) o.2 :=
  zCT_of (by decide) (Nat.le_of_ble_eq_true rfl) (zk_k (zk_i (zk_i (zk_i zk_0)))) rfl (wX10_give hd h (fun r e => ⟨by rw [e], by rw [e]⟩))
def fX10_need (v1 : Int32) (v2 : Int32) (mm : zM) : Option (Int32 × zM) :=
  (fX10_isUnit v1 mm).bind (fun x1 => if x1 = 0 then (some (((-1), mm))) else ((fX10_in v2 0 25 mm).bind (fun x2 => if x2 = 0 then (some (((-1), mm))) else ((fX10_tells v1 v2 ((-1)) mm).bind (fun x3 => some ((x3.1, x3.2)))))))
theorem wX10_need {E : zE} {d : Nat} (hd : 3 ≤ d) {Q : Option zV → zM → Prop} {v1 : Int32} {v2 : Int32} {mm : zM} {o : (Int32 × zM)} (h : fX10_need v1 v2 mm = some o) (hQ : ∀ r, o = r → Q (some (zI r.1)) r.2) : V E RX10 cX10_need 3 (some .int) d Q 0 [some (zK 10 0), some (zI v1), some (zI v2)] [] mm := by
  unfold fX10_need at h
  refine V_aload_n 1 rfl 0 dX10_need_0 rfl rfl ?_
  refine V_iload_n 2 rfl 1 dX10_need_1 rfl rfl ?_
  obtain ⟨x1, h1, h⟩ := zbd h
  refine V_cV 5 rfl 1 [zI v1] [] dX10_need_2 cv_X10_201 (ctX10_isUnit (Nat.le_refl 1) h1) (Nat.le_trans (by decide) hd) rfl rfl (Nat.le_of_ble_eq_true rfl) zoki rfl ?_
  refine V_if_eq 8 28 rfl dX10_need_5 (by decide) (fun c => ?_) (fun c => ?_)
  · have h := zpos c h
    refine V_iconst 29 rfl (v := (-1)) dX10_need_28 (by decide) ?_
    exact V_iret dX10_need_29 rfl (hQ (((-1), mm)) (zinj h))
  · have h := zneg c h
    refine V_iload_n 9 rfl 2 dX10_need_8 rfl rfl ?_
    refine V_iconst 10 rfl (v := 0) dX10_need_9 (by decide) ?_
    refine V_bipush 12 rfl (v := 25) dX10_need_10 (by decide) ?_
    obtain ⟨x2, h1, h⟩ := zbd h
    refine V_cS 15 rfl 0 [zI v2, zI 0, zI 25] [] dX10_need_12 cs_X10_88 (ctX10_in (Nat.le_refl 0) h1) (Nat.le_trans (by decide) hd) rfl rfl (Nat.le_of_ble_eq_true rfl) zoki rfl ?_
    refine V_if_eq 18 28 rfl dX10_need_15 (by decide) (fun c => ?_) (fun c => ?_)
    · have h := zpos c h
      refine V_iconst 29 rfl (v := (-1)) dX10_need_28 (by decide) ?_
      exact V_iret dX10_need_29 rfl (hQ (((-1), mm)) (zinj h))
    · have h := zneg c h
      refine V_aload_n 19 rfl 0 dX10_need_18 rfl rfl ?_
      refine V_iload_n 20 rfl 1 dX10_need_19 rfl rfl ?_
      refine V_iload_n 21 rfl 2 dX10_need_20 rfl rfl ?_
      refine V_iconst 22 rfl (v := (-1)) dX10_need_21 (by decide) ?_
      obtain ⟨x3, h1, h⟩ := zbd h
      refine V_cV 25 rfl 2 [zI v1, zI v2, zI (-1)] [] dX10_need_22 cv_X10_270 (ctX10_tells (Nat.le_refl 2) h1) (Nat.le_trans (by decide) hd) rfl rfl (Nat.le_of_ble_eq_true rfl) zoki rfl ?_
      refine V_goto 29 dX10_need_25 (by decide) ?_
      exact V_iret dX10_need_29 rfl (hQ ((x3.1, x3.2)) (zinj h))
theorem ctX10_need {E : zE} {d : Nat} (hd : 3 ≤ d) {v1 : Int32} {v2 : Int32} {mm : zM} {o : (Int32 × zM)} (h : fX10_need v1 v2 mm = some o) : zOC E yX10_need cX10_need 3 (some .int) d [zK 10 0, zI v1, zI v2] mm (some (zI o.1)) o.2 :=
  zCT_of (by decide) (Nat.le_of_ble_eq_true rfl) (zk_k (zk_i (zk_i zk_0))) rfl (wX10_need hd h (fun r e => ⟨by rw [e], by rw [e]⟩))
def fX10_take_L35 (v1 : Int32) (s : (Int32 × zM)) : Option ((Int32 × zM) ⊕ (zM ⊕ Empty)) :=
  (fX10_owns v1 s.2).bind (fun x6 => (fX10_ownAt v1 ((x6 - 1)) s.2).bind (fun x7 => if x7 ≤ s.1 then (some (.inr (.inl s.2))) else (zob (zin ((s.1 + 6)) 1357) (zob (zin s.1 1357) (some (.inl ((s.1 + 1), (wi s.2 38 0 (zn s.1) ((gi s.2 38 0 (zn ((s.1 + 6)))))))))))))
def fX10_take (v1 : Int32) (v2 : Int32) (mm : zM) : Option (Int32 × zM) :=
  (fX10_isUnit v1 mm).bind (fun x1 => if x1 = 0 then (some (((-1), mm))) else ((fX10_ownOf v1 v2 mm).bind (fun x2 => if x2 = (-1) then (some (((-1), mm))) else ((fX10_keepsPast mm).bind (fun x3 => (fX10_ownOf v1 v2 x3).bind (fun x4 => (fX10_ownAt v1 x4 x3).bind (fun x5 => (zloop (fX10_take_L35 v1) zF (x5, x3)).bind (fun o11 => zcase o11 (fun y8 => zob (zin ((((113 * v1)) + 64)) 1357) (zob (zin ((((113 * v1)) + 64)) 1357) ((fX10_owns v1 ((wi y8 38 0 (zn ((((113 * v1)) + 64))) ((((gi y8 38 0 (zn ((((113 * v1)) + 64))))) - 1))))).bind (fun x10 => some ((x10, (wi y8 38 0 (zn ((((113 * v1)) + 64))) ((((gi y8 38 0 (zn ((((113 * v1)) + 64))))) - 1))))))))) (fun r9 => r9.elim)))))))))
theorem wX10_take_L35 {E : zE} {d : Nat} (hd : 2 ≤ d) {Q : Option zV → zM → Prop} {v1 : Int32} {n : Nat} {s : (Int32 × zM)} {o : zM ⊕ Empty} (h : zloop (fX10_take_L35 v1) n s = some o) (he : ∀ y : zM, o = .inl y → V E RX10 cX10_take 4 (some .int) d Q 71 [some (zK 10 0), some (zI v1), none, none] [] y) : V E RX10 cX10_take 4 (some .int) d Q 35 [some (zK 10 0), some (zI v1), none, some (zI s.1)] [] s.2 := by
  induction n generalizing s with
  | zero => exact (zloop_0 h).elim
  | succ n ih =>
    obtain ⟨o1, h1, hc1, he1⟩ := zloop_s h
    have kc : ∀ s' : (Int32 × zM), o1 = .inl s' → V E RX10 cX10_take 4 (some .int) d Q 35 [some (zK 10 0), some (zI v1), none, some (zI s'.1)] [] s'.2 := fun s' e => ih (hc1 s' e)
    have ke : ∀ y : zM, o1 = .inr (.inl y) → V E RX10 cX10_take 4 (some .int) d Q 71 [some (zK 10 0), some (zI v1), none, none] [] y := fun y e => he y (he1 _ e)
    clear h hc1 he1 ih
    have h := h1
    clear h1
    unfold fX10_take_L35 at h
    refine V_iload_n 36 rfl 3 dX10_take_35 rfl rfl ?_
    refine V_iload_n 37 rfl 1 dX10_take_36 rfl rfl ?_
    refine V_aload_n 38 rfl 0 dX10_take_37 rfl rfl ?_
    refine V_iload_n 39 rfl 1 dX10_take_38 rfl rfl ?_
    obtain ⟨x6, h1, h⟩ := zbd h
    refine V_cV 42 rfl 0 [zI v1] [zI v1, zI s.1] dX10_take_39 cv_X10_207 (ctX10_owns (Nat.le_refl 0) h1) (Nat.le_trans (by decide) hd) rfl rfl (Nat.le_of_ble_eq_true rfl) zoki rfl ?_
    refine V_iconst 43 rfl (v := 1) dX10_take_42 (by decide) ?_
    refine V_isub 44 rfl dX10_take_43 ?_
    obtain ⟨x7, h1, h⟩ := zbd h
    refine V_cS 47 rfl 0 [zI v1, zI (x6 - 1)] [zI s.1] dX10_take_44 cs_X10_168 (ctX10_ownAt (Nat.le_refl 0) h1) (Nat.le_trans (by decide) hd) rfl rfl (Nat.le_of_ble_eq_true rfl) zoki rfl ?_
    refine V_icmp_ge 50 71 rfl dX10_take_47 (by decide) (fun c => ?_) (fun c => ?_)
    · have h := zpos c h
      exact V_w (zsub_s (zsub_s (zsub_s (zsub_n zsub_0)))) (ke s.2 (zinj h))
    · have h := zneg c h
      refine V_aload_n 51 rfl 0 dX10_take_50 rfl rfl ?_
      refine V_getr 54 rfl 38 0 dX10_take_51 fl_X10_11 rfl rfl rfl ?_
      refine V_iload_n 55 rfl 3 dX10_take_54 rfl rfl ?_
      refine V_aload_n 56 rfl 0 dX10_take_55 rfl rfl ?_
      refine V_getr 59 rfl 38 0 dX10_take_56 fl_X10_11 rfl rfl rfl ?_
      refine V_iload_n 60 rfl 3 dX10_take_59 rfl rfl ?_
      refine V_bipush 62 rfl (v := 6) dX10_take_60 (by decide) ?_
      refine V_iadd 63 rfl dX10_take_62 ?_
      obtain ⟨hi, h⟩ := zobd h
      refine V_iald 64 rfl dX10_take_63 rfl hi ?_
      obtain ⟨hi, h⟩ := zobd h
      refine V_iast 65 rfl dX10_take_64 rfl hi ?_
      refine V_iinc 68 rfl (s.1 + 1) (L' := [some (zK 10 0), some (zI v1), none, some (zI (s.1 + 1))]) dX10_take_65 rfl rfl (by decide) rfl ?_
      refine V_goto 35 dX10_take_68 (by decide) ?_
      exact kc ((s.1 + 1), (wi s.2 38 0 (zn s.1) ((gi s.2 38 0 (zn ((s.1 + 6))))))) (zinj h)
theorem wX10_take {E : zE} {d : Nat} (hd : 2 ≤ d) {Q : Option zV → zM → Prop} {v1 : Int32} {v2 : Int32} {mm : zM} {o : (Int32 × zM)} (h : fX10_take v1 v2 mm = some o) (hQ : ∀ r, o = r → Q (some (zI r.1)) r.2) : V E RX10 cX10_take 4 (some .int) d Q 0 [some (zK 10 0), some (zI v1), some (zI v2), none] [] mm := by
  unfold fX10_take at h
  refine V_aload_n 1 rfl 0 dX10_take_0 rfl rfl ?_
  refine V_iload_n 2 rfl 1 dX10_take_1 rfl rfl ?_
  obtain ⟨x1, h1, h⟩ := zbd h
  refine V_cV 5 rfl 1 [zI v1] [] dX10_take_2 cv_X10_201 (ctX10_isUnit (Nat.le_refl 1) h1) (Nat.le_trans (by decide) hd) rfl rfl (Nat.le_of_ble_eq_true rfl) zoki rfl ?_
  refine V_if_eq 8 18 rfl dX10_take_5 (by decide) (fun c => ?_) (fun c => ?_)
  · have h := zpos c h
    refine V_iconst 19 rfl (v := (-1)) dX10_take_18 (by decide) ?_
    exact V_iret dX10_take_19 rfl (hQ (((-1), mm)) (zinj h))
  · have h := zneg c h
    refine V_aload_n 9 rfl 0 dX10_take_8 rfl rfl ?_
    refine V_iload_n 10 rfl 1 dX10_take_9 rfl rfl ?_
    refine V_iload_n 11 rfl 2 dX10_take_10 rfl rfl ?_
    obtain ⟨x2, h1, h⟩ := zbd h
    refine V_cV 14 rfl 1 [zI v1, zI v2] [] dX10_take_11 cv_X10_267 (ctX10_ownOf (Nat.le_refl 1) h1) (Nat.le_trans (by decide) hd) rfl rfl (Nat.le_of_ble_eq_true rfl) zoki rfl ?_
    refine V_iconst 15 rfl (v := (-1)) dX10_take_14 (by decide) ?_
    refine V_icmp_ne 18 20 rfl dX10_take_15 (by decide) (fun c => ?_) (fun c => ?_)
    · have h := zneg c h
      refine V_aload_n 21 rfl 0 dX10_take_20 rfl rfl ?_
      obtain ⟨x3, h1, h⟩ := zbd h
      refine V_cV 24 rfl 1 [] [] dX10_take_21 cv_X10_264 (ctX10_keepsPast (Nat.le_refl 1) h1) (Nat.le_trans (by decide) hd) rfl rfl (Nat.le_of_ble_eq_true rfl) zokn rfl ?_
      refine V_iload_n 25 rfl 1 dX10_take_24 rfl rfl ?_
      refine V_aload_n 26 rfl 0 dX10_take_25 rfl rfl ?_
      refine V_iload_n 27 rfl 1 dX10_take_26 rfl rfl ?_
      refine V_iload_n 28 rfl 2 dX10_take_27 rfl rfl ?_
      obtain ⟨x4, h1, h⟩ := zbd h
      refine V_cV 31 rfl 1 [zI v1, zI v2] [zI v1] dX10_take_28 cv_X10_267 (ctX10_ownOf (Nat.le_refl 1) h1) (Nat.le_trans (by decide) hd) rfl rfl (Nat.le_of_ble_eq_true rfl) zoki rfl ?_
      obtain ⟨x5, h1, h⟩ := zbd h
      refine V_cS 34 rfl 0 [zI v1, zI x4] [] dX10_take_31 cs_X10_168 (ctX10_ownAt (Nat.le_refl 0) h1) (Nat.le_trans (by decide) hd) rfl rfl (Nat.le_of_ble_eq_true rfl) zoki rfl ?_
      refine V_istore_n 35 rfl 3 (L' := [some (zK 10 0), some (zI v1), some (zI v2), some (zI x5)]) dX10_take_34 rfl (by decide) rfl ?_
      obtain ⟨o11, h1, h⟩ := zbd h
      refine V_w (zsub_s (zsub_s (zsub_n (zsub_s zsub_0)))) (wX10_take_L35 hd h1 (fun y8 e => ?_))
      have h := zcl_ e h
      refine V_aload_n 72 rfl 0 dX10_take_71 rfl rfl ?_
      refine V_getr 75 rfl 38 0 dX10_take_72 fl_X10_11 rfl rfl rfl ?_
      refine V_bipush 77 rfl (v := 113) dX10_take_75 (by decide) ?_
      refine V_iload_n 78 rfl 1 dX10_take_77 rfl rfl ?_
      refine V_imul 79 rfl dX10_take_78 ?_
      refine V_bipush 81 rfl (v := 64) dX10_take_79 (by decide) ?_
      refine V_iadd 82 rfl dX10_take_81 ?_
      refine V_dup2 83 rfl dX10_take_82 rfl rfl ?_
      obtain ⟨hi, h⟩ := zobd h
      refine V_iald 84 rfl dX10_take_83 rfl hi ?_
      refine V_iconst 85 rfl (v := 1) dX10_take_84 (by decide) ?_
      refine V_isub 86 rfl dX10_take_85 ?_
      obtain ⟨hi, h⟩ := zobd h
      refine V_iast 87 rfl dX10_take_86 rfl hi ?_
      refine V_aload_n 88 rfl 0 dX10_take_87 rfl rfl ?_
      refine V_iload_n 89 rfl 1 dX10_take_88 rfl rfl ?_
      obtain ⟨x10, h1, h⟩ := zbd h
      refine V_cV 92 rfl 0 [zI v1] [] dX10_take_89 cv_X10_207 (ctX10_owns (Nat.le_refl 0) h1) (Nat.le_trans (by decide) hd) rfl rfl (Nat.le_of_ble_eq_true rfl) zoki rfl ?_
      exact V_iret dX10_take_92 rfl (hQ ((x10, (wi y8 38 0 (zn ((((113 * v1)) + 64))) ((((gi y8 38 0 (zn ((((113 * v1)) + 64))))) - 1))))) (zinj h))
    · have h := zpos c h
      refine V_iconst 19 rfl (v := (-1)) dX10_take_18 (by decide) ?_
      exact V_iret dX10_take_19 rfl (hQ (((-1), mm)) (zinj h))
theorem ctX10_take {E : zE} {d : Nat} (hd : 2 ≤ d) {v1 : Int32} {v2 : Int32} {mm : zM} {o : (Int32 × zM)} (h : fX10_take v1 v2 mm = some o) : zOC E yX10_take cX10_take 4 (some .int) d [zK 10 0, zI v1, zI v2] mm (some (zI o.1)) o.2 :=
  zCT_of (by decide) (Nat.le_of_ble_eq_true rfl) (zk_k (zk_i (zk_i zk_0))) rfl (wX10_take hd h (fun r e => ⟨by rw [e], by rw [e]⟩))
def fX10_uses (v1 : Int32) (mm : zM) : Option Int32 :=
  zob (zin ((((113 * v1)) + 7)) 1357) (some ((gi mm 38 0 (zn ((((113 * v1)) + 7))))))
theorem wX10_uses {E : zE} {d : Nat} (hd : 0 ≤ d) {Q : Option zV → zM → Prop} {v1 : Int32} {mm : zM} {o : Int32} (h : fX10_uses v1 mm = some o) (hQ : ∀ r, o = r → Q (some (zI r)) mm) : V E RX10 cX10_uses 2 (some .int) d Q 0 [some (zK 10 0), some (zI v1)] [] mm := by
  unfold fX10_uses at h
  refine V_aload_n 1 rfl 0 dX10_uses_0 rfl rfl ?_
  refine V_getr 4 rfl 38 0 dX10_uses_1 fl_X10_11 rfl rfl rfl ?_
  refine V_bipush 6 rfl (v := 113) dX10_uses_4 (by decide) ?_
  refine V_iload_n 7 rfl 1 dX10_uses_6 rfl rfl ?_
  refine V_imul 8 rfl dX10_uses_7 ?_
  refine V_bipush 10 rfl (v := 7) dX10_uses_8 (by decide) ?_
  refine V_iadd 11 rfl dX10_uses_10 ?_
  obtain ⟨hi, h⟩ := zobd h
  refine V_iald 12 rfl dX10_uses_11 rfl hi ?_
  exact V_iret dX10_uses_12 rfl (hQ ((gi mm 38 0 (zn ((((113 * v1)) + 7))))) (zinj h))
theorem ctX10_uses {E : zE} {d : Nat} (hd : 0 ≤ d) {v1 : Int32} {mm : zM} {o : Int32} (h : fX10_uses v1 mm = some o) : zOC E yX10_uses cX10_uses 2 (some .int) d [zK 10 0, zI v1] mm (some (zI o)) mm :=
  zCT_of (by decide) (Nat.le_of_ble_eq_true rfl) (zk_k (zk_i zk_0)) rfl (wX10_uses hd h (fun r e => ⟨by rw [e], rfl⟩))
def fX10_useOf_L2 (v1 : Int32) (v2 : Int32) (mm : zM) (s : Int32) : Option (Int32 ⊕ (Unit ⊕ Int32)) :=
  (fX10_uses v1 mm).bind (fun x1 => if x1 ≤ s then (some (.inr (.inl ()))) else ((fX10_useAt v1 s mm).bind (fun x2 => zob (zin x2 1357) (if (gi mm 38 0 (zn x2)) = v2 then (some (.inr (.inr s))) else (some (.inl (s + 1)))))))
def fX10_useOf (v1 : Int32) (v2 : Int32) (mm : zM) : Option Int32 :=
  (zloop (fX10_useOf_L2 v1 v2 mm) zF 0).bind (fun o5 => zcase o5 (fun y3 => some ((-1))) (fun r4 => some r4))
theorem wX10_useOf_L2 {E : zE} {d : Nat} (hd : 1 ≤ d) {Q : Option zV → zM → Prop} {v1 : Int32} {v2 : Int32} {mm : zM} {n : Nat} {s : Int32} {o : Unit ⊕ Int32} (h : zloop (fX10_useOf_L2 v1 v2 mm) n s = some o) (he : ∀ y : Unit, o = .inl y → V E RX10 cX10_useOf 4 (some .int) d Q 33 [none, none, none, none] [] mm) (hr : ∀ r : Int32, o = .inr r → Q (some (zI r)) mm) : V E RX10 cX10_useOf 4 (some .int) d Q 2 [some (zK 10 0), some (zI v1), some (zI v2), some (zI s)] [] mm := by
  induction n generalizing s with
  | zero => exact (zloop_0 h).elim
  | succ n ih =>
    obtain ⟨o1, h1, hc1, he1⟩ := zloop_s h
    have kc : ∀ s' : Int32, o1 = .inl s' → V E RX10 cX10_useOf 4 (some .int) d Q 2 [some (zK 10 0), some (zI v1), some (zI v2), some (zI s')] [] mm := fun s' e => ih (hc1 s' e)
    have ke : ∀ y : Unit, o1 = .inr (.inl y) → V E RX10 cX10_useOf 4 (some .int) d Q 33 [none, none, none, none] [] mm := fun y e => he y (he1 _ e)
    have kr : ∀ r : Int32, o1 = .inr (.inr r) → Q (some (zI r)) mm := fun r e => hr r (he1 _ e)
    clear h hc1 he1 ih
    have h := h1
    clear h1
    unfold fX10_useOf_L2 at h
    refine V_iload_n 3 rfl 3 dX10_useOf_2 rfl rfl ?_
    refine V_aload_n 4 rfl 0 dX10_useOf_3 rfl rfl ?_
    refine V_iload_n 5 rfl 1 dX10_useOf_4 rfl rfl ?_
    obtain ⟨x1, h1, h⟩ := zbd h
    refine V_cV 8 rfl 0 [zI v1] [zI s] dX10_useOf_5 cv_X10_210 (ctX10_uses (Nat.le_refl 0) h1) (Nat.le_trans (by decide) hd) rfl rfl (Nat.le_of_ble_eq_true rfl) zoki rfl ?_
    refine V_icmp_ge 11 33 rfl dX10_useOf_8 (by decide) (fun c => ?_) (fun c => ?_)
    · have h := zpos c h
      exact V_w (zsub_n (zsub_n (zsub_n (zsub_n zsub_0)))) (ke () (zinj h))
    · have h := zneg c h
      refine V_aload_n 12 rfl 0 dX10_useOf_11 rfl rfl ?_
      refine V_getr 15 rfl 38 0 dX10_useOf_12 fl_X10_11 rfl rfl rfl ?_
      refine V_iload_n 16 rfl 1 dX10_useOf_15 rfl rfl ?_
      refine V_iload_n 17 rfl 3 dX10_useOf_16 rfl rfl ?_
      obtain ⟨x2, h1, h⟩ := zbd h
      refine V_cS 20 rfl 0 [zI v1, zI s] [zK 38 0] dX10_useOf_17 cs_X10_147 (ctX10_useAt (Nat.le_refl 0) h1) (Nat.le_trans (by decide) hd) rfl rfl (Nat.le_of_ble_eq_true rfl) zoki rfl ?_
      obtain ⟨hi, h⟩ := zobd h
      refine V_iald 21 rfl dX10_useOf_20 rfl hi ?_
      refine V_iload_n 22 rfl 2 dX10_useOf_21 rfl rfl ?_
      refine V_icmp_ne 25 27 rfl dX10_useOf_22 (by decide) (fun c => ?_) (fun c => ?_)
      · have h := zneg c h
        refine V_iinc 30 rfl (s + 1) (L' := [some (zK 10 0), some (zI v1), some (zI v2), some (zI (s + 1))]) dX10_useOf_27 rfl rfl (by decide) rfl ?_
        refine V_goto 2 dX10_useOf_30 (by decide) ?_
        exact kc (s + 1) (zinj h)
      · have h := zpos c h
        refine V_iload_n 26 rfl 3 dX10_useOf_25 rfl rfl ?_
        exact V_iret dX10_useOf_26 rfl (kr s (zinj h))
theorem wX10_useOf {E : zE} {d : Nat} (hd : 1 ≤ d) {Q : Option zV → zM → Prop} {v1 : Int32} {v2 : Int32} {mm : zM} {o : Int32} (h : fX10_useOf v1 v2 mm = some o) (hQ : ∀ r, o = r → Q (some (zI r)) mm) : V E RX10 cX10_useOf 4 (some .int) d Q 0 [some (zK 10 0), some (zI v1), some (zI v2), none] [] mm := by
  unfold fX10_useOf at h
  refine V_iconst 1 rfl (v := 0) dX10_useOf_0 (by decide) ?_
  refine V_istore_n 2 rfl 3 (L' := [some (zK 10 0), some (zI v1), some (zI v2), some (zI 0)]) dX10_useOf_1 rfl (by decide) rfl ?_
  obtain ⟨o5, h1, h⟩ := zbd h
  refine wX10_useOf_L2 hd h1 (fun y3 e => ?_) (fun r e => by have h := zcr_ e h; exact hQ r (zinj h))
  have h := zcl_ e h
  refine V_iconst 34 rfl (v := (-1)) dX10_useOf_33 (by decide) ?_
  exact V_iret dX10_useOf_34 rfl (hQ ((-1)) (zinj h))
theorem ctX10_useOf {E : zE} {d : Nat} (hd : 1 ≤ d) {v1 : Int32} {v2 : Int32} {mm : zM} {o : Int32} (h : fX10_useOf v1 v2 mm = some o) : zOC E yX10_useOf cX10_useOf 4 (some .int) d [zK 10 0, zI v1, zI v2] mm (some (zI o)) mm :=
  zCT_of (by decide) (Nat.le_of_ble_eq_true rfl) (zk_k (zk_i (zk_i zk_0))) rfl (wX10_useOf hd h (fun r e => ⟨by rw [e], rfl⟩))
def fX10_use (v1 : Int32) (v2 : Int32) (mm : zM) : Option (Int32 × zM) :=
  (fX10_isUnit v1 mm).bind (fun x1 => if x1 = 0 then (some (((-1), mm))) else ((fX10_isUnit v2 mm).bind (fun x2 => if x2 = 0 then (some (((-1), mm))) else ((fX10_isTrait v2 mm).bind (fun x3 => if x3 = 0 then (some (((-1), mm))) else (if v2 < v1 then ((fX10_useOf v1 v2 mm).bind (fun x4 => if x4 = (-1) then ((fX10_uses v1 mm).bind (fun x5 => if x5 = 4 then (some (((-3), mm))) else ((fX10_keepsPast mm).bind (fun x6 => (fX10_uses v1 x6).bind (fun x7 => (fX10_useAt v1 x7 x6).bind (fun x8 => zob (zin x8 1357) ((fX10_uses v1 ((wi x6 38 0 (zn x8) v2))).bind (fun x9 => (fX10_useAt v1 x9 ((wi x6 38 0 (zn x8) v2))).bind (fun x10 => zob (zin ((x10 + 1)) 1357) (zob (zin ((((113 * v1)) + 7)) 1357) (zob (zin ((((113 * v1)) + 7)) 1357) ((fX10_uses v1 ((wi ((wi ((wi x6 38 0 (zn x8) v2)) 38 0 (zn ((x10 + 1))) 0)) 38 0 (zn ((((113 * v1)) + 7))) ((((gi ((wi ((wi x6 38 0 (zn x8) v2)) 38 0 (zn ((x10 + 1))) 0)) 38 0 (zn ((((113 * v1)) + 7))))) + 1))))).bind (fun x11 => some ((x11, (wi ((wi ((wi x6 38 0 (zn x8) v2)) 38 0 (zn ((x10 + 1))) 0)) 38 0 (zn ((((113 * v1)) + 7))) ((((gi ((wi ((wi x6 38 0 (zn x8) v2)) 38 0 (zn ((x10 + 1))) 0)) 38 0 (zn ((((113 * v1)) + 7))))) + 1)))))))))))))))))) else (some (((-2), mm))))) else (some (((-1), mm)))))))))
theorem wX10_use {E : zE} {d : Nat} (hd : 2 ≤ d) {Q : Option zV → zM → Prop} {v1 : Int32} {v2 : Int32} {mm : zM} {o : (Int32 × zM)} (h : fX10_use v1 v2 mm = some o) (hQ : ∀ r, o = r → Q (some (zI r.1)) r.2) : V E RX10 cX10_use 3 (some .int) d Q 0 [some (zK 10 0), some (zI v1), some (zI v2)] [] mm := by
  unfold fX10_use at h
  refine V_aload_n 1 rfl 0 dX10_use_0 rfl rfl ?_
  refine V_iload_n 2 rfl 1 dX10_use_1 rfl rfl ?_
  obtain ⟨x1, h1, h⟩ := zbd h
  refine V_cV 5 rfl 1 [zI v1] [] dX10_use_2 cv_X10_201 (ctX10_isUnit (Nat.le_refl 1) h1) (Nat.le_trans (by decide) hd) rfl rfl (Nat.le_of_ble_eq_true rfl) zoki rfl ?_
  refine V_if_eq 8 29 rfl dX10_use_5 (by decide) (fun c => ?_) (fun c => ?_)
  · have h := zpos c h
    refine V_iconst 30 rfl (v := (-1)) dX10_use_29 (by decide) ?_
    exact V_iret dX10_use_30 rfl (hQ (((-1), mm)) (zinj h))
  · have h := zneg c h
    refine V_aload_n 9 rfl 0 dX10_use_8 rfl rfl ?_
    refine V_iload_n 10 rfl 2 dX10_use_9 rfl rfl ?_
    obtain ⟨x2, h1, h⟩ := zbd h
    refine V_cV 13 rfl 1 [zI v2] [] dX10_use_10 cv_X10_201 (ctX10_isUnit (Nat.le_refl 1) h1) (Nat.le_trans (by decide) hd) rfl rfl (Nat.le_of_ble_eq_true rfl) zoki rfl ?_
    refine V_if_eq 16 29 rfl dX10_use_13 (by decide) (fun c => ?_) (fun c => ?_)
    · have h := zpos c h
      refine V_iconst 30 rfl (v := (-1)) dX10_use_29 (by decide) ?_
      exact V_iret dX10_use_30 rfl (hQ (((-1), mm)) (zinj h))
    · have h := zneg c h
      refine V_aload_n 17 rfl 0 dX10_use_16 rfl rfl ?_
      refine V_iload_n 18 rfl 2 dX10_use_17 rfl rfl ?_
      obtain ⟨x3, h1, h⟩ := zbd h
      refine V_cV 21 rfl 0 [zI v2] [] dX10_use_18 cv_X10_204 (ctX10_isTrait (Nat.le_refl 0) h1) (Nat.le_trans (by decide) hd) rfl rfl (Nat.le_of_ble_eq_true rfl) zoki rfl ?_
      refine V_if_eq 24 29 rfl dX10_use_21 (by decide) (fun c => ?_) (fun c => ?_)
      · have h := zpos c h
        refine V_iconst 30 rfl (v := (-1)) dX10_use_29 (by decide) ?_
        exact V_iret dX10_use_30 rfl (hQ (((-1), mm)) (zinj h))
      · have h := zneg c h
        refine V_iload_n 25 rfl 2 dX10_use_24 rfl rfl ?_
        refine V_iload_n 26 rfl 1 dX10_use_25 rfl rfl ?_
        refine V_icmp_lt 29 31 rfl dX10_use_26 (by decide) (fun c => ?_) (fun c => ?_)
        · have h := zpos c h
          refine V_aload_n 32 rfl 0 dX10_use_31 rfl rfl ?_
          refine V_iload_n 33 rfl 1 dX10_use_32 rfl rfl ?_
          refine V_iload_n 34 rfl 2 dX10_use_33 rfl rfl ?_
          obtain ⟨x4, h1, h⟩ := zbd h
          refine V_cV 37 rfl 1 [zI v1, zI v2] [] dX10_use_34 cv_X10_273 (ctX10_useOf (Nat.le_refl 1) h1) (Nat.le_trans (by decide) hd) rfl rfl (Nat.le_of_ble_eq_true rfl) zoki rfl ?_
          refine V_iconst 38 rfl (v := (-1)) dX10_use_37 (by decide) ?_
          refine V_icmp_eq 41 44 rfl dX10_use_38 (by decide) (fun c => ?_) (fun c => ?_)
          · have h := zpos c h
            refine V_aload_n 45 rfl 0 dX10_use_44 rfl rfl ?_
            refine V_iload_n 46 rfl 1 dX10_use_45 rfl rfl ?_
            obtain ⟨x5, h1, h⟩ := zbd h
            refine V_cV 49 rfl 0 [zI v1] [] dX10_use_46 cv_X10_210 (ctX10_uses (Nat.le_refl 0) h1) (Nat.le_trans (by decide) hd) rfl rfl (Nat.le_of_ble_eq_true rfl) zoki rfl ?_
            refine V_iconst 50 rfl (v := 4) dX10_use_49 (by decide) ?_
            refine V_icmp_ne 53 56 rfl dX10_use_50 (by decide) (fun c => ?_) (fun c => ?_)
            · have h := zneg c h
              refine V_aload_n 57 rfl 0 dX10_use_56 rfl rfl ?_
              obtain ⟨x6, h1, h⟩ := zbd h
              refine V_cV 60 rfl 1 [] [] dX10_use_57 cv_X10_264 (ctX10_keepsPast (Nat.le_refl 1) h1) (Nat.le_trans (by decide) hd) rfl rfl (Nat.le_of_ble_eq_true rfl) zokn rfl ?_
              refine V_aload_n 61 rfl 0 dX10_use_60 rfl rfl ?_
              refine V_getr 64 rfl 38 0 dX10_use_61 fl_X10_11 rfl rfl rfl ?_
              refine V_iload_n 65 rfl 1 dX10_use_64 rfl rfl ?_
              refine V_aload_n 66 rfl 0 dX10_use_65 rfl rfl ?_
              refine V_iload_n 67 rfl 1 dX10_use_66 rfl rfl ?_
              obtain ⟨x7, h1, h⟩ := zbd h
              refine V_cV 70 rfl 0 [zI v1] [zI v1, zK 38 0] dX10_use_67 cv_X10_210 (ctX10_uses (Nat.le_refl 0) h1) (Nat.le_trans (by decide) hd) rfl rfl (Nat.le_of_ble_eq_true rfl) zoki rfl ?_
              obtain ⟨x8, h1, h⟩ := zbd h
              refine V_cS 73 rfl 0 [zI v1, zI x7] [zK 38 0] dX10_use_70 cs_X10_147 (ctX10_useAt (Nat.le_refl 0) h1) (Nat.le_trans (by decide) hd) rfl rfl (Nat.le_of_ble_eq_true rfl) zoki rfl ?_
              refine V_iload_n 74 rfl 2 dX10_use_73 rfl rfl ?_
              obtain ⟨hi, h⟩ := zobd h
              refine V_iast 75 rfl dX10_use_74 rfl hi ?_
              refine V_aload_n 76 rfl 0 dX10_use_75 rfl rfl ?_
              refine V_getr 79 rfl 38 0 dX10_use_76 fl_X10_11 rfl rfl rfl ?_
              refine V_iload_n 80 rfl 1 dX10_use_79 rfl rfl ?_
              refine V_aload_n 81 rfl 0 dX10_use_80 rfl rfl ?_
              refine V_iload_n 82 rfl 1 dX10_use_81 rfl rfl ?_
              obtain ⟨x9, h1, h⟩ := zbd h
              refine V_cV 85 rfl 0 [zI v1] [zI v1, zK 38 0] dX10_use_82 cv_X10_210 (ctX10_uses (Nat.le_refl 0) h1) (Nat.le_trans (by decide) hd) rfl rfl (Nat.le_of_ble_eq_true rfl) zoki rfl ?_
              obtain ⟨x10, h1, h⟩ := zbd h
              refine V_cS 88 rfl 0 [zI v1, zI x9] [zK 38 0] dX10_use_85 cs_X10_147 (ctX10_useAt (Nat.le_refl 0) h1) (Nat.le_trans (by decide) hd) rfl rfl (Nat.le_of_ble_eq_true rfl) zoki rfl ?_
              refine V_iconst 89 rfl (v := 1) dX10_use_88 (by decide) ?_
              refine V_iadd 90 rfl dX10_use_89 ?_
              refine V_iconst 91 rfl (v := 0) dX10_use_90 (by decide) ?_
              obtain ⟨hi, h⟩ := zobd h
              refine V_iast 92 rfl dX10_use_91 rfl hi ?_
              refine V_aload_n 93 rfl 0 dX10_use_92 rfl rfl ?_
              refine V_getr 96 rfl 38 0 dX10_use_93 fl_X10_11 rfl rfl rfl ?_
              refine V_bipush 98 rfl (v := 113) dX10_use_96 (by decide) ?_
              refine V_iload_n 99 rfl 1 dX10_use_98 rfl rfl ?_
              refine V_imul 100 rfl dX10_use_99 ?_
              refine V_bipush 102 rfl (v := 7) dX10_use_100 (by decide) ?_
              refine V_iadd 103 rfl dX10_use_102 ?_
              refine V_dup2 104 rfl dX10_use_103 rfl rfl ?_
              obtain ⟨hi, h⟩ := zobd h
              refine V_iald 105 rfl dX10_use_104 rfl hi ?_
              refine V_iconst 106 rfl (v := 1) dX10_use_105 (by decide) ?_
              refine V_iadd 107 rfl dX10_use_106 ?_
              obtain ⟨hi, h⟩ := zobd h
              refine V_iast 108 rfl dX10_use_107 rfl hi ?_
              refine V_aload_n 109 rfl 0 dX10_use_108 rfl rfl ?_
              refine V_iload_n 110 rfl 1 dX10_use_109 rfl rfl ?_
              obtain ⟨x11, h1, h⟩ := zbd h
              refine V_cV 113 rfl 0 [zI v1] [] dX10_use_110 cv_X10_210 (ctX10_uses (Nat.le_refl 0) h1) (Nat.le_trans (by decide) hd) rfl rfl (Nat.le_of_ble_eq_true rfl) zoki rfl ?_
              exact V_iret dX10_use_113 rfl (hQ ((x11, (wi ((wi ((wi x6 38 0 (zn x8) v2)) 38 0 (zn ((x10 + 1))) 0)) 38 0 (zn ((((113 * v1)) + 7))) ((((gi ((wi ((wi x6 38 0 (zn x8) v2)) 38 0 (zn ((x10 + 1))) 0)) 38 0 (zn ((((113 * v1)) + 7))))) + 1))))) (zinj h))
            · have h := zpos c h
              refine V_bipush 55 rfl (v := (-3)) dX10_use_53 (by decide) ?_
              exact V_iret dX10_use_55 rfl (hQ (((-3), mm)) (zinj h))
          · have h := zneg c h
            refine V_bipush 43 rfl (v := (-2)) dX10_use_41 (by decide) ?_
            exact V_iret dX10_use_43 rfl (hQ (((-2), mm)) (zinj h))
        · have h := zneg c h
          refine V_iconst 30 rfl (v := (-1)) dX10_use_29 (by decide) ?_
          exact V_iret dX10_use_30 rfl (hQ (((-1), mm)) (zinj h))
theorem ctX10_use {E : zE} {d : Nat} (hd : 2 ≤ d) {v1 : Int32} {v2 : Int32} {mm : zM} {o : (Int32 × zM)} (h : fX10_use v1 v2 mm = some o) : zOC E yX10_use cX10_use 3 (some .int) d [zK 10 0, zI v1, zI v2] mm (some (zI o.1)) o.2 :=
  zCT_of (by decide) (Nat.le_of_ble_eq_true rfl) (zk_k (zk_i (zk_i zk_0))) rfl (wX10_use hd h (fun r e => ⟨by rw [e], by rw [e]⟩))
def fX10_changeAt_L10 (v3 : Int32) (v4 : Int32) (mm : zM) (s : Int32) : Option (Int32 ⊕ (Unit ⊕ Int32)) :=
  zob (zin ((v4 + 1)) 1357) (if (gi mm 38 0 (zn ((v4 + 1)))) ≤ s then (some (.inr (.inl ()))) else (zob (zin ((((v4 + 2)) + ((2 * s)))) 1357) (if (gi mm 38 0 (zn ((((v4 + 2)) + ((2 * s)))))) = v3 then (some (.inr (.inr ((((v4 + 2)) + ((2 * s))))))) else (some (.inl (s + 1))))))
def fX10_changeAt (v1 : Int32) (v2 : Int32) (v3 : Int32) (mm : zM) : Option Int32 :=
  (fX10_useAt v1 v2 mm).bind (fun x1 => (zloop (fX10_changeAt_L10 v3 x1 mm) zF 0).bind (fun o4 => zcase o4 (fun y2 => some ((-1))) (fun r3 => some r3)))
theorem wX10_changeAt_L10 {E : zE} {d : Nat} (hd : 1 ≤ d) {Q : Option zV → zM → Prop} {v3 : Int32} {v4 : Int32} {mm : zM} {n : Nat} {s : Int32} {o : Unit ⊕ Int32} (h : zloop (fX10_changeAt_L10 v3 v4 mm) n s = some o) (he : ∀ y : Unit, o = .inl y → V E RX10 cX10_changeAt 6 (some .int) d Q 58 [none, none, none, none, none, none] [] mm) (hr : ∀ r : Int32, o = .inr r → Q (some (zI r)) mm) : V E RX10 cX10_changeAt 6 (some .int) d Q 10 [some (zK 10 0), none, none, some (zI v3), some (zI v4), some (zI s)] [] mm := by
  induction n generalizing s with
  | zero => exact (zloop_0 h).elim
  | succ n ih =>
    obtain ⟨o1, h1, hc1, he1⟩ := zloop_s h
    have kc : ∀ s' : Int32, o1 = .inl s' → V E RX10 cX10_changeAt 6 (some .int) d Q 10 [some (zK 10 0), none, none, some (zI v3), some (zI v4), some (zI s')] [] mm := fun s' e => ih (hc1 s' e)
    have ke : ∀ y : Unit, o1 = .inr (.inl y) → V E RX10 cX10_changeAt 6 (some .int) d Q 58 [none, none, none, none, none, none] [] mm := fun y e => he y (he1 _ e)
    have kr : ∀ r : Int32, o1 = .inr (.inr r) → Q (some (zI r)) mm := fun r e => hr r (he1 _ e)
    clear h hc1 he1 ih
    have h := h1
    clear h1
    unfold fX10_changeAt_L10 at h
    refine V_iload 12 rfl dX10_changeAt_10 rfl ?_
    refine V_aload_n 13 rfl 0 dX10_changeAt_12 rfl rfl ?_
    refine V_getr 16 rfl 38 0 dX10_changeAt_13 fl_X10_11 rfl rfl rfl ?_
    refine V_iload 18 rfl dX10_changeAt_16 rfl ?_
    refine V_iconst 19 rfl (v := 1) dX10_changeAt_18 (by decide) ?_
    refine V_iadd 20 rfl dX10_changeAt_19 ?_
    obtain ⟨hi, h⟩ := zobd h
    refine V_iald 21 rfl dX10_changeAt_20 rfl hi ?_
    refine V_icmp_ge 24 58 rfl dX10_changeAt_21 (by decide) (fun c => ?_) (fun c => ?_)
    · have h := zpos c h
      exact V_w (zsub_n (zsub_s (zsub_s (zsub_n (zsub_n (zsub_n zsub_0)))))) (ke () (zinj h))
    · have h := zneg c h
      refine V_aload_n 25 rfl 0 dX10_changeAt_24 rfl rfl ?_
      refine V_getr 28 rfl 38 0 dX10_changeAt_25 fl_X10_11 rfl rfl rfl ?_
      refine V_iload 30 rfl dX10_changeAt_28 rfl ?_
      refine V_iconst 31 rfl (v := 2) dX10_changeAt_30 (by decide) ?_
      refine V_iadd 32 rfl dX10_changeAt_31 ?_
      refine V_iconst 33 rfl (v := 2) dX10_changeAt_32 (by decide) ?_
      refine V_iload 35 rfl dX10_changeAt_33 rfl ?_
      refine V_imul 36 rfl dX10_changeAt_35 ?_
      refine V_iadd 37 rfl dX10_changeAt_36 ?_
      obtain ⟨hi, h⟩ := zobd h
      refine V_iald 38 rfl dX10_changeAt_37 rfl hi ?_
      refine V_iload_n 39 rfl 3 dX10_changeAt_38 rfl rfl ?_
      refine V_icmp_ne 42 52 rfl dX10_changeAt_39 (by decide) (fun c => ?_) (fun c => ?_)
      · have h := zneg c h
        refine V_iinc 55 rfl (s + 1) (L' := [some (zK 10 0), none, none, some (zI v3), some (zI v4), some (zI (s + 1))]) dX10_changeAt_52 rfl rfl (by decide) rfl ?_
        refine V_goto 10 dX10_changeAt_55 (by decide) ?_
        exact kc (s + 1) (zinj h)
      · have h := zpos c h
        refine V_iload 44 rfl dX10_changeAt_42 rfl ?_
        refine V_iconst 45 rfl (v := 2) dX10_changeAt_44 (by decide) ?_
        refine V_iadd 46 rfl dX10_changeAt_45 ?_
        refine V_iconst 47 rfl (v := 2) dX10_changeAt_46 (by decide) ?_
        refine V_iload 49 rfl dX10_changeAt_47 rfl ?_
        refine V_imul 50 rfl dX10_changeAt_49 ?_
        refine V_iadd 51 rfl dX10_changeAt_50 ?_
        exact V_iret dX10_changeAt_51 rfl (kr ((((v4 + 2)) + ((2 * s)))) (zinj h))
theorem wX10_changeAt {E : zE} {d : Nat} (hd : 1 ≤ d) {Q : Option zV → zM → Prop} {v1 : Int32} {v2 : Int32} {v3 : Int32} {mm : zM} {o : Int32} (h : fX10_changeAt v1 v2 v3 mm = some o) (hQ : ∀ r, o = r → Q (some (zI r)) mm) : V E RX10 cX10_changeAt 6 (some .int) d Q 0 [some (zK 10 0), some (zI v1), some (zI v2), some (zI v3), none, none] [] mm := by
  unfold fX10_changeAt at h
  refine V_iload_n 1 rfl 1 dX10_changeAt_0 rfl rfl ?_
  refine V_iload_n 2 rfl 2 dX10_changeAt_1 rfl rfl ?_
  obtain ⟨x1, h1, h⟩ := zbd h
  refine V_cS 5 rfl 0 [zI v1, zI v2] [] dX10_changeAt_2 cs_X10_147 (ctX10_useAt (Nat.le_refl 0) h1) (Nat.le_trans (by decide) hd) rfl rfl (Nat.le_of_ble_eq_true rfl) zoki rfl ?_
  refine V_istore 7 rfl (L' := [some (zK 10 0), some (zI v1), some (zI v2), some (zI v3), some (zI x1), none]) dX10_changeAt_5 (by decide) rfl ?_
  refine V_iconst 8 rfl (v := 0) dX10_changeAt_7 (by decide) ?_
  refine V_istore 10 rfl (L' := [some (zK 10 0), some (zI v1), some (zI v2), some (zI v3), some (zI x1), some (zI 0)]) dX10_changeAt_8 (by decide) rfl ?_
  obtain ⟨o4, h1, h⟩ := zbd h
  refine V_w (zsub_s (zsub_n (zsub_n (zsub_s (zsub_s (zsub_s zsub_0)))))) (wX10_changeAt_L10 hd h1 (fun y2 e => ?_) (fun r e => by have h := zcr_ e h; exact hQ r (zinj h)))
  have h := zcl_ e h
  refine V_iconst 59 rfl (v := (-1)) dX10_changeAt_58 (by decide) ?_
  exact V_iret dX10_changeAt_59 rfl (hQ ((-1)) (zinj h))
theorem ctX10_changeAt {E : zE} {d : Nat} (hd : 1 ≤ d) {v1 : Int32} {v2 : Int32} {v3 : Int32} {mm : zM} {o : Int32} (h : fX10_changeAt v1 v2 v3 mm = some o) : zOC E yX10_changeAt cX10_changeAt 6 (some .int) d [zK 10 0, zI v1, zI v2, zI v3] mm (some (zI o)) mm :=
  zCT_of (by decide) (Nat.le_of_ble_eq_true rfl) (zk_k (zk_i (zk_i (zk_i zk_0)))) rfl (wX10_changeAt hd h (fun r e => ⟨by rw [e], rfl⟩))
def fX10_becomesIn (v1 : Int32) (v2 : Int32) (v3 : Int32) (mm : zM) : Option Int32 :=
  (fX10_changeAt v1 v2 v3 mm).bind (fun x1 => if x1 = (-1) then (some v3) else (zob (zin ((x1 + 1)) 1357) (some ((gi mm 38 0 (zn ((x1 + 1))))))))
theorem wX10_becomesIn {E : zE} {d : Nat} (hd : 2 ≤ d) {Q : Option zV → zM → Prop} {v1 : Int32} {v2 : Int32} {v3 : Int32} {mm : zM} {o : Int32} (h : fX10_becomesIn v1 v2 v3 mm = some o) (hQ : ∀ r, o = r → Q (some (zI r)) mm) : V E RX10 cX10_becomesIn 5 (some .int) d Q 0 [some (zK 10 0), some (zI v1), some (zI v2), some (zI v3), none] [] mm := by
  unfold fX10_becomesIn at h
  refine V_aload_n 1 rfl 0 dX10_becomesIn_0 rfl rfl ?_
  refine V_iload_n 2 rfl 1 dX10_becomesIn_1 rfl rfl ?_
  refine V_iload_n 3 rfl 2 dX10_becomesIn_2 rfl rfl ?_
  refine V_iload_n 4 rfl 3 dX10_becomesIn_3 rfl rfl ?_
  obtain ⟨x1, h1, h⟩ := zbd h
  refine V_cV 7 rfl 1 [zI v1, zI v2, zI v3] [] dX10_becomesIn_4 cv_X10_212 (ctX10_changeAt (Nat.le_refl 1) h1) (Nat.le_trans (by decide) hd) rfl rfl (Nat.le_of_ble_eq_true rfl) zoki rfl ?_
  refine V_istore 9 rfl (L' := [some (zK 10 0), some (zI v1), some (zI v2), some (zI v3), some (zI x1)]) dX10_becomesIn_7 (by decide) rfl ?_
  refine V_iload 11 rfl dX10_becomesIn_9 rfl ?_
  refine V_iconst 12 rfl (v := (-1)) dX10_becomesIn_11 (by decide) ?_
  refine V_icmp_ne 15 19 rfl dX10_becomesIn_12 (by decide) (fun c => ?_) (fun c => ?_)
  · have h := zneg c h
    refine V_aload_n 20 rfl 0 dX10_becomesIn_19 rfl rfl ?_
    refine V_getr 23 rfl 38 0 dX10_becomesIn_20 fl_X10_11 rfl rfl rfl ?_
    refine V_iload 25 rfl dX10_becomesIn_23 rfl ?_
    refine V_iconst 26 rfl (v := 1) dX10_becomesIn_25 (by decide) ?_
    refine V_iadd 27 rfl dX10_becomesIn_26 ?_
    obtain ⟨hi, h⟩ := zobd h
    refine V_iald 28 rfl dX10_becomesIn_27 rfl hi ?_
    exact V_iret dX10_becomesIn_28 rfl (hQ ((gi mm 38 0 (zn ((x1 + 1))))) (zinj h))
  · have h := zpos c h
    refine V_iload_n 16 rfl 3 dX10_becomesIn_15 rfl rfl ?_
    refine V_goto 28 dX10_becomesIn_16 (by decide) ?_
    exact V_iret dX10_becomesIn_28 rfl (hQ v3 (zinj h))
theorem ctX10_becomesIn {E : zE} {d : Nat} (hd : 2 ≤ d) {v1 : Int32} {v2 : Int32} {v3 : Int32} {mm : zM} {o : Int32} (h : fX10_becomesIn v1 v2 v3 mm = some o) : zOC E yX10_becomesIn cX10_becomesIn 5 (some .int) d [zK 10 0, zI v1, zI v2, zI v3] mm (some (zI o)) mm :=
  zCT_of (by decide) (Nat.le_of_ble_eq_true rfl) (zk_k (zk_i (zk_i (zk_i zk_0)))) rfl (wX10_becomesIn hd h (fun r e => ⟨by rw [e], rfl⟩))
def fX10_change_J221 (v3 : Int32) (v4 : Int32) (v6 : Int32) (v7 : Int32) (mm : zM) : Option (Int32 × zM) :=
  zob (zin v7 1357) (zob (zin ((v7 + 1)) 1357) (zob (zin ((v6 + 1)) 1357) (some (((gi ((wi ((wi mm 38 0 (zn v7) v3)) 38 0 (zn ((v7 + 1))) v4)) 38 0 (zn ((v6 + 1)))), (wi ((wi mm 38 0 (zn v7) v3)) 38 0 (zn ((v7 + 1))) v4))))))
def fX10_change_L120 (v6 : Int32) (s : (Int32 × zM)) : Option ((Int32 × zM) ⊕ (zM ⊕ Empty)) :=
  zob (zin ((v6 + 1)) 1357) (if (v6 + ((2 * ((gi s.2 38 0 (zn ((v6 + 1)))))))) ≤ s.1 then (some (.inr (.inl s.2))) else (zob (zin ((s.1 + 2)) 1357) (zob (zin s.1 1357) (some (.inl ((s.1 + 1), (wi s.2 38 0 (zn s.1) ((gi s.2 38 0 (zn ((s.1 + 2))))))))))))
def fX10_change_J106 (v3 : Int32) (v4 : Int32) (v6 : Int32) (v7 : Int32) (mm : zM) : Option (Int32 × zM) :=
  (fX10_keepsPast mm).bind (fun x9 => if v4 = v3 then ((zloop (fX10_change_L120 v6) zF (v7, x9)).bind (fun o12 => zcase o12 (fun y10 => zob (zin ((v6 + 1)) 1357) (zob (zin ((v6 + 1)) 1357) (zob (zin ((v6 + 1)) 1357) (some (((gi ((wi y10 38 0 (zn ((v6 + 1))) ((((gi y10 38 0 (zn ((v6 + 1))))) - 1)))) 38 0 (zn ((v6 + 1)))), (wi y10 38 0 (zn ((v6 + 1))) ((((gi y10 38 0 (zn ((v6 + 1))))) - 1))))))))) (fun r11 => r11.elim))) else (if v7 = (-1) then (zob (zin ((v6 + 1)) 1357) (zob (zin ((v6 + 1)) 1357) (zob (zin ((v6 + 1)) 1357) (fX10_change_J221 v3 v4 v6 ((((v6 + 2)) + ((2 * ((gi x9 38 0 (zn ((v6 + 1))))))))) ((wi x9 38 0 (zn ((v6 + 1))) ((((gi x9 38 0 (zn ((v6 + 1))))) + 1)))))))) else (fX10_change_J221 v3 v4 v6 v7 x9)))
def fX10_change (v1 : Int32) (v2 : Int32) (v3 : Int32) (v4 : Int32) (mm : zM) : Option (Int32 × zM) :=
  (fX10_isUnit v1 mm).bind (fun x1 => if x1 = 0 then (some (((-1), mm))) else ((fX10_in v3 0 25 mm).bind (fun x2 => if x2 = 0 then (some (((-1), mm))) else ((fX10_in v4 ((-1)) 25 mm).bind (fun x3 => if x3 = 0 then (some (((-1), mm))) else ((fX10_useOf v1 v2 mm).bind (fun x4 => if x4 = (-1) then (some (((-1), mm))) else ((fX10_useOf v1 v2 mm).bind (fun x5 => (fX10_useAt v1 x5 mm).bind (fun x6 => (fX10_becomesIn v1 x5 v3 mm).bind (fun x7 => if x7 = v4 then (some (((-2), mm))) else ((fX10_changeAt v1 x5 v3 mm).bind (fun x8 => if x8 = (-1) then (zob (zin ((x6 + 1)) 1357) (if (gi mm 38 0 (zn ((x6 + 1)))) = 6 then (some (((-3), mm))) else (fX10_change_J106 v3 v4 x6 x8 mm))) else (fX10_change_J106 v3 v4 x6 x8 mm))))))))))))))
theorem wX10_change_J221 {E : zE} {d : Nat} (hd : 3 ≤ d) {Q : Option zV → zM → Prop} {v3 : Int32} {v4 : Int32} {v6 : Int32} {v7 : Int32} {mm : zM} {o : (Int32 × zM)} (h : fX10_change_J221 v3 v4 v6 v7 mm = some o) (hQ : ∀ r, o = r → Q (some (zI r.1)) r.2) : V E RX10 cX10_change 9 (some .int) d Q 221 [some (zK 10 0), none, none, some (zI v3), some (zI v4), none, some (zI v6), some (zI v7), none] [] mm := by
  unfold fX10_change_J221 at h
  refine V_aload_n 222 rfl 0 dX10_change_221 rfl rfl ?_
  refine V_getr 225 rfl 38 0 dX10_change_222 fl_X10_11 rfl rfl rfl ?_
  refine V_iload 227 rfl dX10_change_225 rfl ?_
  refine V_iload_n 228 rfl 3 dX10_change_227 rfl rfl ?_
  obtain ⟨hi, h⟩ := zobd h
  refine V_iast 229 rfl dX10_change_228 rfl hi ?_
  refine V_aload_n 230 rfl 0 dX10_change_229 rfl rfl ?_
  refine V_getr 233 rfl 38 0 dX10_change_230 fl_X10_11 rfl rfl rfl ?_
  refine V_iload 235 rfl dX10_change_233 rfl ?_
  refine V_iconst 236 rfl (v := 1) dX10_change_235 (by decide) ?_
  refine V_iadd 237 rfl dX10_change_236 ?_
  refine V_iload 239 rfl dX10_change_237 rfl ?_
  obtain ⟨hi, h⟩ := zobd h
  refine V_iast 240 rfl dX10_change_239 rfl hi ?_
  refine V_aload_n 241 rfl 0 dX10_change_240 rfl rfl ?_
  refine V_getr 244 rfl 38 0 dX10_change_241 fl_X10_11 rfl rfl rfl ?_
  refine V_iload 246 rfl dX10_change_244 rfl ?_
  refine V_iconst 247 rfl (v := 1) dX10_change_246 (by decide) ?_
  refine V_iadd 248 rfl dX10_change_247 ?_
  obtain ⟨hi, h⟩ := zobd h
  refine V_iald 249 rfl dX10_change_248 rfl hi ?_
  exact V_iret dX10_change_249 rfl (hQ (((gi ((wi ((wi mm 38 0 (zn v7) v3)) 38 0 (zn ((v7 + 1))) v4)) 38 0 (zn ((v6 + 1)))), (wi ((wi mm 38 0 (zn v7) v3)) 38 0 (zn ((v7 + 1))) v4))) (zinj h))
theorem wX10_change_L120 {E : zE} {d : Nat} (hd : 3 ≤ d) {Q : Option zV → zM → Prop} {v6 : Int32} {n : Nat} {s : (Int32 × zM)} {o : zM ⊕ Empty} (h : zloop (fX10_change_L120 v6) n s = some o) (he : ∀ y : zM, o = .inl y → V E RX10 cX10_change 9 (some .int) d Q 161 [some (zK 10 0), none, none, none, none, none, some (zI v6), none, none] [] y) : V E RX10 cX10_change 9 (some .int) d Q 120 [some (zK 10 0), none, none, none, none, none, some (zI v6), none, some (zI s.1)] [] s.2 := by
  induction n generalizing s with
  | zero => exact (zloop_0 h).elim
  | succ n ih =>
    obtain ⟨o1, h1, hc1, he1⟩ := zloop_s h
    have kc : ∀ s' : (Int32 × zM), o1 = .inl s' → V E RX10 cX10_change 9 (some .int) d Q 120 [some (zK 10 0), none, none, none, none, none, some (zI v6), none, some (zI s'.1)] [] s'.2 := fun s' e => ih (hc1 s' e)
    have ke : ∀ y : zM, o1 = .inr (.inl y) → V E RX10 cX10_change 9 (some .int) d Q 161 [some (zK 10 0), none, none, none, none, none, some (zI v6), none, none] [] y := fun y e => he y (he1 _ e)
    clear h hc1 he1 ih
    have h := h1
    clear h1
    unfold fX10_change_L120 at h
    refine V_iload 122 rfl dX10_change_120 rfl ?_
    refine V_iload 124 rfl dX10_change_122 rfl ?_
    refine V_iconst 125 rfl (v := 2) dX10_change_124 (by decide) ?_
    refine V_aload_n 126 rfl 0 dX10_change_125 rfl rfl ?_
    refine V_getr 129 rfl 38 0 dX10_change_126 fl_X10_11 rfl rfl rfl ?_
    refine V_iload 131 rfl dX10_change_129 rfl ?_
    refine V_iconst 132 rfl (v := 1) dX10_change_131 (by decide) ?_
    refine V_iadd 133 rfl dX10_change_132 ?_
    obtain ⟨hi, h⟩ := zobd h
    refine V_iald 134 rfl dX10_change_133 rfl hi ?_
    refine V_imul 135 rfl dX10_change_134 ?_
    refine V_iadd 136 rfl dX10_change_135 ?_
    refine V_icmp_ge 139 161 rfl dX10_change_136 (by decide) (fun c => ?_) (fun c => ?_)
    · have h := zpos c h
      exact V_w (zsub_s (zsub_s (zsub_s (zsub_s (zsub_s (zsub_s (zsub_s (zsub_s (zsub_n zsub_0))))))))) (ke s.2 (zinj h))
    · have h := zneg c h
      refine V_aload_n 140 rfl 0 dX10_change_139 rfl rfl ?_
      refine V_getr 143 rfl 38 0 dX10_change_140 fl_X10_11 rfl rfl rfl ?_
      refine V_iload 145 rfl dX10_change_143 rfl ?_
      refine V_aload_n 146 rfl 0 dX10_change_145 rfl rfl ?_
      refine V_getr 149 rfl 38 0 dX10_change_146 fl_X10_11 rfl rfl rfl ?_
      refine V_iload 151 rfl dX10_change_149 rfl ?_
      refine V_iconst 152 rfl (v := 2) dX10_change_151 (by decide) ?_
      refine V_iadd 153 rfl dX10_change_152 ?_
      obtain ⟨hi, h⟩ := zobd h
      refine V_iald 154 rfl dX10_change_153 rfl hi ?_
      obtain ⟨hi, h⟩ := zobd h
      refine V_iast 155 rfl dX10_change_154 rfl hi ?_
      refine V_iinc 158 rfl (s.1 + 1) (L' := [some (zK 10 0), none, none, none, none, none, some (zI v6), none, some (zI (s.1 + 1))]) dX10_change_155 rfl rfl (by decide) rfl ?_
      refine V_goto 120 dX10_change_158 (by decide) ?_
      exact kc ((s.1 + 1), (wi s.2 38 0 (zn s.1) ((gi s.2 38 0 (zn ((s.1 + 2))))))) (zinj h)
theorem wX10_change_J106 {E : zE} {d : Nat} (hd : 3 ≤ d) {Q : Option zV → zM → Prop} {v3 : Int32} {v4 : Int32} {v6 : Int32} {v7 : Int32} {mm : zM} {o : (Int32 × zM)} (h : fX10_change_J106 v3 v4 v6 v7 mm = some o) (hQ : ∀ r, o = r → Q (some (zI r.1)) r.2) : V E RX10 cX10_change 9 (some .int) d Q 106 [some (zK 10 0), none, none, some (zI v3), some (zI v4), none, some (zI v6), some (zI v7), none] [] mm := by
  unfold fX10_change_J106 at h
  refine V_aload_n 107 rfl 0 dX10_change_106 rfl rfl ?_
  obtain ⟨x9, h1, h⟩ := zbd h
  refine V_cV 110 rfl 1 [] [] dX10_change_107 cv_X10_264 (ctX10_keepsPast (Nat.le_refl 1) h1) (Nat.le_trans (by decide) hd) rfl rfl (Nat.le_of_ble_eq_true rfl) zokn rfl ?_
  refine V_iload 112 rfl dX10_change_110 rfl ?_
  refine V_iload_n 113 rfl 3 dX10_change_112 rfl rfl ?_
  refine V_icmp_ne 116 184 rfl dX10_change_113 (by decide) (fun c => ?_) (fun c => ?_)
  · have h := zneg c h
    refine V_iload 186 rfl dX10_change_184 rfl ?_
    refine V_iconst 187 rfl (v := (-1)) dX10_change_186 (by decide) ?_
    refine V_icmp_ne 190 221 rfl dX10_change_187 (by decide) (fun c => ?_) (fun c => ?_)
    · have h := zneg c h
      exact wX10_change_J221 hd h hQ
    · have h := zpos c h
      refine V_iload 192 rfl dX10_change_190 rfl ?_
      refine V_iconst 193 rfl (v := 2) dX10_change_192 (by decide) ?_
      refine V_iadd 194 rfl dX10_change_193 ?_
      refine V_iconst 195 rfl (v := 2) dX10_change_194 (by decide) ?_
      refine V_aload_n 196 rfl 0 dX10_change_195 rfl rfl ?_
      refine V_getr 199 rfl 38 0 dX10_change_196 fl_X10_11 rfl rfl rfl ?_
      refine V_iload 201 rfl dX10_change_199 rfl ?_
      refine V_iconst 202 rfl (v := 1) dX10_change_201 (by decide) ?_
      refine V_iadd 203 rfl dX10_change_202 ?_
      obtain ⟨hi, h⟩ := zobd h
      refine V_iald 204 rfl dX10_change_203 rfl hi ?_
      refine V_imul 205 rfl dX10_change_204 ?_
      refine V_iadd 206 rfl dX10_change_205 ?_
      refine V_istore 208 rfl (L' := [some (zK 10 0), none, none, some (zI v3), some (zI v4), none, some (zI v6), some (zI (((v6 + 2)) + ((2 * ((gi x9 38 0 (zn ((v6 + 1))))))))), none]) dX10_change_206 (by decide) rfl ?_
      refine V_aload_n 209 rfl 0 dX10_change_208 rfl rfl ?_
      refine V_getr 212 rfl 38 0 dX10_change_209 fl_X10_11 rfl rfl rfl ?_
      refine V_iload 214 rfl dX10_change_212 rfl ?_
      refine V_iconst 215 rfl (v := 1) dX10_change_214 (by decide) ?_
      refine V_iadd 216 rfl dX10_change_215 ?_
      refine V_dup2 217 rfl dX10_change_216 rfl rfl ?_
      obtain ⟨hi, h⟩ := zobd h
      refine V_iald 218 rfl dX10_change_217 rfl hi ?_
      refine V_iconst 219 rfl (v := 1) dX10_change_218 (by decide) ?_
      refine V_iadd 220 rfl dX10_change_219 ?_
      obtain ⟨hi, h⟩ := zobd h
      refine V_iast 221 rfl dX10_change_220 rfl hi ?_
      exact wX10_change_J221 hd h hQ
  · have h := zpos c h
    refine V_iload 118 rfl dX10_change_116 rfl ?_
    refine V_istore 120 rfl (L' := [some (zK 10 0), none, none, some (zI v3), some (zI v4), none, some (zI v6), some (zI v7), some (zI v7)]) dX10_change_118 (by decide) rfl ?_
    obtain ⟨o12, h1, h⟩ := zbd h
    refine V_w (zsub_s (zsub_s (zsub_s (zsub_n (zsub_n (zsub_s (zsub_s (zsub_n (zsub_s zsub_0))))))))) (wX10_change_L120 hd h1 (fun y10 e => ?_))
    have h := zcl_ e h
    refine V_aload_n 162 rfl 0 dX10_change_161 rfl rfl ?_
    refine V_getr 165 rfl 38 0 dX10_change_162 fl_X10_11 rfl rfl rfl ?_
    refine V_iload 167 rfl dX10_change_165 rfl ?_
    refine V_iconst 168 rfl (v := 1) dX10_change_167 (by decide) ?_
    refine V_iadd 169 rfl dX10_change_168 ?_
    refine V_dup2 170 rfl dX10_change_169 rfl rfl ?_
    obtain ⟨hi, h⟩ := zobd h
    refine V_iald 171 rfl dX10_change_170 rfl hi ?_
    refine V_iconst 172 rfl (v := 1) dX10_change_171 (by decide) ?_
    refine V_isub 173 rfl dX10_change_172 ?_
    obtain ⟨hi, h⟩ := zobd h
    refine V_iast 174 rfl dX10_change_173 rfl hi ?_
    refine V_aload_n 175 rfl 0 dX10_change_174 rfl rfl ?_
    refine V_getr 178 rfl 38 0 dX10_change_175 fl_X10_11 rfl rfl rfl ?_
    refine V_iload 180 rfl dX10_change_178 rfl ?_
    refine V_iconst 181 rfl (v := 1) dX10_change_180 (by decide) ?_
    refine V_iadd 182 rfl dX10_change_181 ?_
    obtain ⟨hi, h⟩ := zobd h
    refine V_iald 183 rfl dX10_change_182 rfl hi ?_
    exact V_iret dX10_change_183 rfl (hQ (((gi ((wi y10 38 0 (zn ((v6 + 1))) ((((gi y10 38 0 (zn ((v6 + 1))))) - 1)))) 38 0 (zn ((v6 + 1)))), (wi y10 38 0 (zn ((v6 + 1))) ((((gi y10 38 0 (zn ((v6 + 1))))) - 1))))) (zinj h))
theorem wX10_change {E : zE} {d : Nat} (hd : 3 ≤ d) {Q : Option zV → zM → Prop} {v1 : Int32} {v2 : Int32} {v3 : Int32} {v4 : Int32} {mm : zM} {o : (Int32 × zM)} (h : fX10_change v1 v2 v3 v4 mm = some o) (hQ : ∀ r, o = r → Q (some (zI r.1)) r.2) : V E RX10 cX10_change 9 (some .int) d Q 0 [some (zK 10 0), some (zI v1), some (zI v2), some (zI v3), some (zI v4), none, none, none, none] [] mm := by
  unfold fX10_change at h
  refine V_aload_n 1 rfl 0 dX10_change_0 rfl rfl ?_
  refine V_iload_n 2 rfl 1 dX10_change_1 rfl rfl ?_
  obtain ⟨x1, h1, h⟩ := zbd h
  refine V_cV 5 rfl 1 [zI v1] [] dX10_change_2 cv_X10_201 (ctX10_isUnit (Nat.le_refl 1) h1) (Nat.le_trans (by decide) hd) rfl rfl (Nat.le_of_ble_eq_true rfl) zoki rfl ?_
  refine V_if_eq 8 39 rfl dX10_change_5 (by decide) (fun c => ?_) (fun c => ?_)
  · have h := zpos c h
    refine V_iconst 40 rfl (v := (-1)) dX10_change_39 (by decide) ?_
    exact V_iret dX10_change_40 rfl (hQ (((-1), mm)) (zinj h))
  · have h := zneg c h
    refine V_iload_n 9 rfl 3 dX10_change_8 rfl rfl ?_
    refine V_iconst 10 rfl (v := 0) dX10_change_9 (by decide) ?_
    refine V_bipush 12 rfl (v := 25) dX10_change_10 (by decide) ?_
    obtain ⟨x2, h1, h⟩ := zbd h
    refine V_cS 15 rfl 0 [zI v3, zI 0, zI 25] [] dX10_change_12 cs_X10_88 (ctX10_in (Nat.le_refl 0) h1) (Nat.le_trans (by decide) hd) rfl rfl (Nat.le_of_ble_eq_true rfl) zoki rfl ?_
    refine V_if_eq 18 39 rfl dX10_change_15 (by decide) (fun c => ?_) (fun c => ?_)
    · have h := zpos c h
      refine V_iconst 40 rfl (v := (-1)) dX10_change_39 (by decide) ?_
      exact V_iret dX10_change_40 rfl (hQ (((-1), mm)) (zinj h))
    · have h := zneg c h
      refine V_iload 20 rfl dX10_change_18 rfl ?_
      refine V_iconst 21 rfl (v := (-1)) dX10_change_20 (by decide) ?_
      refine V_bipush 23 rfl (v := 25) dX10_change_21 (by decide) ?_
      obtain ⟨x3, h1, h⟩ := zbd h
      refine V_cS 26 rfl 0 [zI v4, zI (-1), zI 25] [] dX10_change_23 cs_X10_88 (ctX10_in (Nat.le_refl 0) h1) (Nat.le_trans (by decide) hd) rfl rfl (Nat.le_of_ble_eq_true rfl) zoki rfl ?_
      refine V_if_eq 29 39 rfl dX10_change_26 (by decide) (fun c => ?_) (fun c => ?_)
      · have h := zpos c h
        refine V_iconst 40 rfl (v := (-1)) dX10_change_39 (by decide) ?_
        exact V_iret dX10_change_40 rfl (hQ (((-1), mm)) (zinj h))
      · have h := zneg c h
        refine V_aload_n 30 rfl 0 dX10_change_29 rfl rfl ?_
        refine V_iload_n 31 rfl 1 dX10_change_30 rfl rfl ?_
        refine V_iload_n 32 rfl 2 dX10_change_31 rfl rfl ?_
        obtain ⟨x4, h1, h⟩ := zbd h
        refine V_cV 35 rfl 1 [zI v1, zI v2] [] dX10_change_32 cv_X10_273 (ctX10_useOf (Nat.le_refl 1) h1) (Nat.le_trans (by decide) hd) rfl rfl (Nat.le_of_ble_eq_true rfl) zoki rfl ?_
        refine V_iconst 36 rfl (v := (-1)) dX10_change_35 (by decide) ?_
        refine V_icmp_ne 39 41 rfl dX10_change_36 (by decide) (fun c => ?_) (fun c => ?_)
        · have h := zneg c h
          refine V_aload_n 42 rfl 0 dX10_change_41 rfl rfl ?_
          refine V_iload_n 43 rfl 1 dX10_change_42 rfl rfl ?_
          refine V_iload_n 44 rfl 2 dX10_change_43 rfl rfl ?_
          obtain ⟨x5, h1, h⟩ := zbd h
          refine V_cV 47 rfl 1 [zI v1, zI v2] [] dX10_change_44 cv_X10_273 (ctX10_useOf (Nat.le_refl 1) h1) (Nat.le_trans (by decide) hd) rfl rfl (Nat.le_of_ble_eq_true rfl) zoki rfl ?_
          refine V_istore 49 rfl (L' := [some (zK 10 0), some (zI v1), some (zI v2), some (zI v3), some (zI v4), some (zI x5), none, none, none]) dX10_change_47 (by decide) rfl ?_
          refine V_iload_n 50 rfl 1 dX10_change_49 rfl rfl ?_
          refine V_iload 52 rfl dX10_change_50 rfl ?_
          obtain ⟨x6, h1, h⟩ := zbd h
          refine V_cS 55 rfl 0 [zI v1, zI x5] [] dX10_change_52 cs_X10_147 (ctX10_useAt (Nat.le_refl 0) h1) (Nat.le_trans (by decide) hd) rfl rfl (Nat.le_of_ble_eq_true rfl) zoki rfl ?_
          refine V_istore 57 rfl (L' := [some (zK 10 0), some (zI v1), some (zI v2), some (zI v3), some (zI v4), some (zI x5), some (zI x6), none, none]) dX10_change_55 (by decide) rfl ?_
          refine V_aload_n 58 rfl 0 dX10_change_57 rfl rfl ?_
          refine V_iload_n 59 rfl 1 dX10_change_58 rfl rfl ?_
          refine V_iload 61 rfl dX10_change_59 rfl ?_
          refine V_iload_n 62 rfl 3 dX10_change_61 rfl rfl ?_
          obtain ⟨x7, h1, h⟩ := zbd h
          refine V_cV 65 rfl 2 [zI v1, zI x5, zI v3] [] dX10_change_62 cv_X10_222 (ctX10_becomesIn (Nat.le_refl 2) h1) (Nat.le_trans (by decide) hd) rfl rfl (Nat.le_of_ble_eq_true rfl) zoki rfl ?_
          refine V_iload 67 rfl dX10_change_65 rfl ?_
          refine V_icmp_ne 70 73 rfl dX10_change_67 (by decide) (fun c => ?_) (fun c => ?_)
          · have h := zneg c h
            refine V_aload_n 74 rfl 0 dX10_change_73 rfl rfl ?_
            refine V_iload_n 75 rfl 1 dX10_change_74 rfl rfl ?_
            refine V_iload 77 rfl dX10_change_75 rfl ?_
            refine V_iload_n 78 rfl 3 dX10_change_77 rfl rfl ?_
            obtain ⟨x8, h1, h⟩ := zbd h
            refine V_cV 81 rfl 1 [zI v1, zI x5, zI v3] [] dX10_change_78 cv_X10_212 (ctX10_changeAt (Nat.le_refl 1) h1) (Nat.le_trans (by decide) hd) rfl rfl (Nat.le_of_ble_eq_true rfl) zoki rfl ?_
            refine V_istore 83 rfl (L' := [some (zK 10 0), some (zI v1), some (zI v2), some (zI v3), some (zI v4), some (zI x5), some (zI x6), some (zI x8), none]) dX10_change_81 (by decide) rfl ?_
            refine V_iload 85 rfl dX10_change_83 rfl ?_
            refine V_iconst 86 rfl (v := (-1)) dX10_change_85 (by decide) ?_
            refine V_icmp_ne 89 106 rfl dX10_change_86 (by decide) (fun c => ?_) (fun c => ?_)
            · have h := zneg c h
              exact V_w (zsub_s (zsub_n (zsub_n (zsub_s (zsub_s (zsub_n (zsub_s (zsub_s (zsub_s zsub_0))))))))) (wX10_change_J106 hd h hQ)
            · have h := zpos c h
              refine V_aload_n 90 rfl 0 dX10_change_89 rfl rfl ?_
              refine V_getr 93 rfl 38 0 dX10_change_90 fl_X10_11 rfl rfl rfl ?_
              refine V_iload 95 rfl dX10_change_93 rfl ?_
              refine V_iconst 96 rfl (v := 1) dX10_change_95 (by decide) ?_
              refine V_iadd 97 rfl dX10_change_96 ?_
              obtain ⟨hi, h⟩ := zobd h
              refine V_iald 98 rfl dX10_change_97 rfl hi ?_
              refine V_bipush 100 rfl (v := 6) dX10_change_98 (by decide) ?_
              refine V_icmp_ne 103 106 rfl dX10_change_100 (by decide) (fun c => ?_) (fun c => ?_)
              · have h := zneg c h
                exact V_w (zsub_s (zsub_n (zsub_n (zsub_s (zsub_s (zsub_n (zsub_s (zsub_s (zsub_s zsub_0))))))))) (wX10_change_J106 hd h hQ)
              · have h := zpos c h
                refine V_bipush 105 rfl (v := (-3)) dX10_change_103 (by decide) ?_
                exact V_iret dX10_change_105 rfl (hQ (((-3), mm)) (zinj h))
          · have h := zpos c h
            refine V_bipush 72 rfl (v := (-2)) dX10_change_70 (by decide) ?_
            exact V_iret dX10_change_72 rfl (hQ (((-2), mm)) (zinj h))
        · have h := zpos c h
          refine V_iconst 40 rfl (v := (-1)) dX10_change_39 (by decide) ?_
          exact V_iret dX10_change_40 rfl (hQ (((-1), mm)) (zinj h))
theorem ctX10_change {E : zE} {d : Nat} (hd : 3 ≤ d) {v1 : Int32} {v2 : Int32} {v3 : Int32} {v4 : Int32} {mm : zM} {o : (Int32 × zM)} (h : fX10_change v1 v2 v3 v4 mm = some o) : zOC E yX10_change cX10_change 9 (some .int) d [zK 10 0, zI v1, zI v2, zI v3, zI v4] mm (some (zI o.1)) o.2 :=
  zCT_of (by decide) (Nat.le_of_ble_eq_true rfl) (zk_k (zk_i (zk_i (zk_i (zk_i zk_0))))) rfl (wX10_change hd h (fun r e => ⟨by rw [e], by rw [e]⟩))
