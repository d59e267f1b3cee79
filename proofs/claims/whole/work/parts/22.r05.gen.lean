def fX10_laysAhead_L2 (v1 : Int32) (s : (Int32 × zM)) : Option ((Int32 × zM) ⊕ (zM ⊕ Empty)) :=
  if 12 ≤ s.1 then (some (.inr (.inl s.2))) else (zob (zin s.1 12) (some (.inl ((s.1 + 1), (wi s.2 52 0 (zn s.1) 0)))))
def fX10_laysAhead_J101 (v1 : Int32) (v2 : Int32) (v3 : Int32) (s0 : Int32) (s1 : Int32) (s2 : Int32) (mm : zM) : Option ((Int32 × zM) ⊕ (zM ⊕ Empty)) :=
  zob (zin s2 12) (some (.inl ((v3 + 1), (wi mm 52 0 (zn s2) ((s1 ||| s0))))))
def fX10_laysAhead_L37 (v1 : Int32) (v2 : Int32) (s : (Int32 × zM)) : Option ((Int32 × zM) ⊕ (zM ⊕ Empty)) :=
  (fX10_parents v2 s.2).bind (fun x3 => if x3 ≤ s.1 then (some (.inr (.inl s.2))) else ((fX10_has v1 v2 s.2).bind (fun x4 => if x4 = 0 then (some (.inr (.inl s.2))) else ((fX10_parentOf v2 s.1 s.2).bind (fun x5 => zob (zin x5 12) (zob (zin x5 12) ((fX10_parentOf v2 s.1 ((wi s.2 52 0 (zn x5) ((((gi s.2 52 0 (zn x5))) ||| ((1 <<< (v2 &&& 31)))))))).bind (fun x6 => zob (zin x6 12) (if s.1 ≤ 0 then (fX10_laysAhead_J101 v1 v2 s.1 0 ((gi ((wi s.2 52 0 (zn x5) ((((gi s.2 52 0 (zn x5))) ||| ((1 <<< (v2 &&& 31))))))) 52 0 (zn x6))) x6 ((wi s.2 52 0 (zn x5) ((((gi s.2 52 0 (zn x5))) ||| ((1 <<< (v2 &&& 31)))))))) else ((fX10_parentOf v2 ((s.1 - 1)) ((wi s.2 52 0 (zn x5) ((((gi s.2 52 0 (zn x5))) ||| ((1 <<< (v2 &&& 31)))))))).bind (fun x7 => fX10_laysAhead_J101 v1 v2 s.1 ((1 <<< (x7 &&& 31))) ((gi ((wi s.2 52 0 (zn x5) ((((gi s.2 52 0 (zn x5))) ||| ((1 <<< (v2 &&& 31))))))) 52 0 (zn x6))) x6 ((wi s.2 52 0 (zn x5) ((((gi s.2 52 0 (zn x5))) ||| ((1 <<< (v2 &&& 31))))))))))))))))))
def fX10_laysAhead_L23 (v1 : Int32) (s : (Int32 × zM)) : Option ((Int32 × zM) ⊕ (zM ⊕ Empty)) :=
  if (gi s.2 38 0 (zn 1356)) ≤ s.1 then (some (.inr (.inl s.2))) else ((zloop (fX10_laysAhead_L37 v1 s.1) zF (0, s.2)).bind (fun o10 => zcase o10 (fun y8 => some (.inl ((s.1 + 1), y8))) (fun r9 => r9.elim)))
def fX10_laysAhead (v1 : Int32) (mm : zM) : Option zM :=
  (zloop (fX10_laysAhead_L2 v1) zF (0, mm)).bind (fun o14 => zcase o14 (fun y1 => (zloop (fX10_laysAhead_L23 v1) zF (0, y1)).bind (fun o13 => zcase o13 (fun y11 => some y11) (fun r12 => r12.elim))) (fun r2 => r2.elim))
theorem wX10_laysAhead_L2 {E : zE} {d : Nat} (hd : 1 ≤ d) {Q : Option zV → zM → Prop} {v1 : Int32} {n : Nat} {s : (Int32 × zM)} {o : zM ⊕ Empty} (h : zloop (fX10_laysAhead_L2 v1) n s = some o) (he : ∀ y : zM, o = .inl y → V E RX10 cX10_laysAhead 4 none d Q 21 [some (zK 10 0), some (zI v1), none, none] [] y) : V E RX10 cX10_laysAhead 4 none d Q 2 [some (zK 10 0), some (zI v1), some (zI s.1), none] [] s.2 := by
  induction n generalizing s with
  | zero => exact (zloop_0 h).elim
  | succ n ih =>
    obtain ⟨o1, h1, hc1, he1⟩ := zloop_s h
    have kc : ∀ s' : (Int32 × zM), o1 = .inl s' → V E RX10 cX10_laysAhead 4 none d Q 2 [some (zK 10 0), some (zI v1), some (zI s'.1), none] [] s'.2 := fun s' e => ih (hc1 s' e)
    have ke : ∀ y : zM, o1 = .inr (.inl y) → V E RX10 cX10_laysAhead 4 none d Q 21 [some (zK 10 0), some (zI v1), none, none] [] y := fun y e => he y (he1 _ e)
    clear h hc1 he1 ih
    have h := h1
    clear h1
    unfold fX10_laysAhead_L2 at h
    refine V_iload_n 3 rfl 2 dX10_laysAhead_2 rfl rfl ?_
    refine V_bipush 5 rfl (v := 12) dX10_laysAhead_3 (by decide) ?_
    refine V_icmp_ge 8 21 rfl dX10_laysAhead_5 (by decide) (fun c => ?_) (fun c => ?_)
    · have h := zpos c h
      exact V_w (zsub_s (zsub_s (zsub_n (zsub_s zsub_0)))) (ke s.2 (zinj h))
    · have h := zneg c h
      refine V_aload_n 9 rfl 0 dX10_laysAhead_8 rfl rfl ?_
      refine V_getr 12 rfl 52 0 dX10_laysAhead_9 fl_X10_56 rfl rfl rfl ?_
      refine V_iload_n 13 rfl 2 dX10_laysAhead_12 rfl rfl ?_
      refine V_iconst 14 rfl (v := 0) dX10_laysAhead_13 (by decide) ?_
      obtain ⟨hi, h⟩ := zobd h
      refine V_iast 15 rfl dX10_laysAhead_14 rfl hi ?_
      refine V_iinc 18 rfl (s.1 + 1) (L' := [some (zK 10 0), some (zI v1), some (zI (s.1 + 1)), none]) dX10_laysAhead_15 rfl rfl (by decide) rfl ?_
      refine V_goto 2 dX10_laysAhead_18 (by decide) ?_
      exact kc ((s.1 + 1), (wi s.2 52 0 (zn s.1) 0)) (zinj h)
theorem wX10_laysAhead_J101 {E : zE} {d : Nat} (hd : 1 ≤ d) {Q : Option zV → zM → Prop} {v1 : Int32} {v2 : Int32} {v3 : Int32} {s0 : Int32} {s1 : Int32} {s2 : Int32} {mm : zM} {o : ((Int32 × zM) ⊕ (zM ⊕ Empty))} (h : fX10_laysAhead_J101 v1 v2 v3 s0 s1 s2 mm = some o) (kc : ∀ s' : (Int32 × zM), o = .inl s' → V E RX10 cX10_laysAhead 4 none d Q 37 [some (zK 10 0), some (zI v1), some (zI v2), some (zI s'.1)] [] s'.2) (ke : ∀ y : zM, o = .inr (.inl y) → V E RX10 cX10_laysAhead 4 none d Q 109 [some (zK 10 0), some (zI v1), some (zI v2), none] [] y) : V E RX10 cX10_laysAhead 4 none d Q 101 [some (zK 10 0), some (zI v1), some (zI v2), some (zI v3)] [zI s0, zI s1, zI s2, zK 52 0] mm := by
  unfold fX10_laysAhead_J101 at h
  refine V_ior 102 rfl dX10_laysAhead_101 ?_
  obtain ⟨hi, h⟩ := zobd h
  refine V_iast 103 rfl dX10_laysAhead_102 rfl hi ?_
  refine V_iinc 106 rfl (v3 + 1) (L' := [some (zK 10 0), some (zI v1), some (zI v2), some (zI (v3 + 1))]) dX10_laysAhead_103 rfl rfl (by decide) rfl ?_
  refine V_goto 37 dX10_laysAhead_106 (by decide) ?_
  exact kc ((v3 + 1), (wi mm 52 0 (zn s2) ((s1 ||| s0)))) (zinj h)
theorem wX10_laysAhead_L37 {E : zE} {d : Nat} (hd : 1 ≤ d) {Q : Option zV → zM → Prop} {v1 : Int32} {v2 : Int32} {n : Nat} {s : (Int32 × zM)} {o : zM ⊕ Empty} (h : zloop (fX10_laysAhead_L37 v1 v2) n s = some o) (he : ∀ y : zM, o = .inl y → V E RX10 cX10_laysAhead 4 none d Q 109 [some (zK 10 0), some (zI v1), some (zI v2), none] [] y) : V E RX10 cX10_laysAhead 4 none d Q 37 [some (zK 10 0), some (zI v1), some (zI v2), some (zI s.1)] [] s.2 := by
  induction n generalizing s with
  | zero => exact (zloop_0 h).elim
  | succ n ih =>
    obtain ⟨o1, h1, hc1, he1⟩ := zloop_s h
    have kc : ∀ s' : (Int32 × zM), o1 = .inl s' → V E RX10 cX10_laysAhead 4 none d Q 37 [some (zK 10 0), some (zI v1), some (zI v2), some (zI s'.1)] [] s'.2 := fun s' e => ih (hc1 s' e)
    have ke : ∀ y : zM, o1 = .inr (.inl y) → V E RX10 cX10_laysAhead 4 none d Q 109 [some (zK 10 0), some (zI v1), some (zI v2), none] [] y := fun y e => he y (he1 _ e)
    clear h hc1 he1 ih
    have h := h1
    clear h1
    unfold fX10_laysAhead_L37 at h
    refine V_iload_n 38 rfl 3 dX10_laysAhead_37 rfl rfl ?_
    refine V_aload_n 39 rfl 0 dX10_laysAhead_38 rfl rfl ?_
    refine V_iload_n 40 rfl 2 dX10_laysAhead_39 rfl rfl ?_
    obtain ⟨x3, h1, h⟩ := zbd h
    refine V_cV 43 rfl 0 [zI v2] [zI s.1] dX10_laysAhead_40 cv_X10_237 (ctX10_parents (Nat.le_refl 0) h1) (Nat.le_trans (by decide) hd) rfl rfl (Nat.le_of_ble_eq_true rfl) zoki rfl ?_
    refine V_icmp_ge 46 109 rfl dX10_laysAhead_43 (by decide) (fun c => ?_) (fun c => ?_)
    · have h := zpos c h
      exact V_w (zsub_s (zsub_s (zsub_s (zsub_n zsub_0)))) (ke s.2 (zinj h))
    · have h := zneg c h
      refine V_iload_n 47 rfl 1 dX10_laysAhead_46 rfl rfl ?_
      refine V_iload_n 48 rfl 2 dX10_laysAhead_47 rfl rfl ?_
      obtain ⟨x4, h1, h⟩ := zbd h
      refine V_cS 51 rfl 0 [zI v1, zI v2] [] dX10_laysAhead_48 cs_X10_133 (ctX10_has (Nat.le_refl 0) h1) (Nat.le_trans (by decide) hd) rfl rfl (Nat.le_of_ble_eq_true rfl) zoki rfl ?_
      refine V_if_eq 54 109 rfl dX10_laysAhead_51 (by decide) (fun c => ?_) (fun c => ?_)
      · have h := zpos c h
        exact V_w (zsub_s (zsub_s (zsub_s (zsub_n zsub_0)))) (ke s.2 (zinj h))
      · have h := zneg c h
        refine V_aload_n 55 rfl 0 dX10_laysAhead_54 rfl rfl ?_
        refine V_getr 58 rfl 52 0 dX10_laysAhead_55 fl_X10_56 rfl rfl rfl ?_
        refine V_aload_n 59 rfl 0 dX10_laysAhead_58 rfl rfl ?_
        refine V_iload_n 60 rfl 2 dX10_laysAhead_59 rfl rfl ?_
        refine V_iload_n 61 rfl 3 dX10_laysAhead_60 rfl rfl ?_
        obtain ⟨x5, h1, h⟩ := zbd h
        refine V_cV 64 rfl 0 [zI v2, zI s.1] [zK 52 0] dX10_laysAhead_61 cv_X10_240 (ctX10_parentOf (Nat.le_refl 0) h1) (Nat.le_trans (by decide) hd) rfl rfl (Nat.le_of_ble_eq_true rfl) zoki rfl ?_
        refine V_dup2 65 rfl dX10_laysAhead_64 rfl rfl ?_
        obtain ⟨hi, h⟩ := zobd h
        refine V_iald 66 rfl dX10_laysAhead_65 rfl hi ?_
        refine V_iconst 67 rfl (v := 1) dX10_laysAhead_66 (by decide) ?_
        refine V_iload_n 68 rfl 2 dX10_laysAhead_67 rfl rfl ?_
        refine V_ishl 69 rfl dX10_laysAhead_68 ?_
        refine V_ior 70 rfl dX10_laysAhead_69 ?_
        obtain ⟨hi, h⟩ := zobd h
        refine V_iast 71 rfl dX10_laysAhead_70 rfl hi ?_
        refine V_aload_n 72 rfl 0 dX10_laysAhead_71 rfl rfl ?_
        refine V_getr 75 rfl 52 0 dX10_laysAhead_72 fl_X10_56 rfl rfl rfl ?_
        refine V_aload_n 76 rfl 0 dX10_laysAhead_75 rfl rfl ?_
        refine V_iload_n 77 rfl 2 dX10_laysAhead_76 rfl rfl ?_
        refine V_iload_n 78 rfl 3 dX10_laysAhead_77 rfl rfl ?_
        obtain ⟨x6, h1, h⟩ := zbd h
        refine V_cV 81 rfl 0 [zI v2, zI s.1] [zK 52 0] dX10_laysAhead_78 cv_X10_240 (ctX10_parentOf (Nat.le_refl 0) h1) (Nat.le_trans (by decide) hd) rfl rfl (Nat.le_of_ble_eq_true rfl) zoki rfl ?_
        refine V_dup2 82 rfl dX10_laysAhead_81 rfl rfl ?_
        obtain ⟨hi, h⟩ := zobd h
        refine V_iald 83 rfl dX10_laysAhead_82 rfl hi ?_
        refine V_iload_n 84 rfl 3 dX10_laysAhead_83 rfl rfl ?_
        refine V_if_le 87 100 rfl dX10_laysAhead_84 (by decide) (fun c => ?_) (fun c => ?_)
        · have h := zpos c h
          refine V_iconst 101 rfl (v := 0) dX10_laysAhead_100 (by decide) ?_
          exact wX10_laysAhead_J101 hd h kc ke
        · have h := zneg c h
          refine V_iconst 88 rfl (v := 1) dX10_laysAhead_87 (by decide) ?_
          refine V_aload_n 89 rfl 0 dX10_laysAhead_88 rfl rfl ?_
          refine V_iload_n 90 rfl 2 dX10_laysAhead_89 rfl rfl ?_
          refine V_iload_n 91 rfl 3 dX10_laysAhead_90 rfl rfl ?_
          refine V_iconst 92 rfl (v := 1) dX10_laysAhead_91 (by decide) ?_
          refine V_isub 93 rfl dX10_laysAhead_92 ?_
          obtain ⟨x7, h1, h⟩ := zbd h
          refine V_cV 96 rfl 0 [zI v2, zI (s.1 - 1)] [zI 1, zI (gi ((wi s.2 52 0 (zn x5) ((((gi s.2 52 0 (zn x5))) ||| ((1 <<< (v2 &&& 31))))))) 52 0 (zn x6)), zI x6, zK 52 0] dX10_laysAhead_93 cv_X10_240 (ctX10_parentOf (Nat.le_refl 0) h1) (Nat.le_trans (by decide) hd) rfl rfl (Nat.le_of_ble_eq_true rfl) zoki rfl ?_
          refine V_ishl 97 rfl dX10_laysAhead_96 ?_
          refine V_goto 101 dX10_laysAhead_97 (by decide) ?_
          exact wX10_laysAhead_J101 hd h kc ke
theorem wX10_laysAhead_L23 {E : zE} {d : Nat} (hd : 1 ≤ d) {Q : Option zV → zM → Prop} {v1 : Int32} {n : Nat} {s : (Int32 × zM)} {o : zM ⊕ Empty} (h : zloop (fX10_laysAhead_L23 v1) n s = some o) (he : ∀ y : zM, o = .inl y → V E RX10 cX10_laysAhead 4 none d Q 115 [none, none, none, none] [] y) : V E RX10 cX10_laysAhead 4 none d Q 23 [some (zK 10 0), some (zI v1), some (zI s.1), none] [] s.2 := by
  induction n generalizing s with
  | zero => exact (zloop_0 h).elim
  | succ n ih =>
    obtain ⟨o1, h1, hc1, he1⟩ := zloop_s h
    have kc : ∀ s' : (Int32 × zM), o1 = .inl s' → V E RX10 cX10_laysAhead 4 none d Q 23 [some (zK 10 0), some (zI v1), some (zI s'.1), none] [] s'.2 := fun s' e => ih (hc1 s' e)
    have ke : ∀ y : zM, o1 = .inr (.inl y) → V E RX10 cX10_laysAhead 4 none d Q 115 [none, none, none, none] [] y := fun y e => he y (he1 _ e)
    clear h hc1 he1 ih
    have h := h1
    clear h1
    unfold fX10_laysAhead_L23 at h
    refine V_iload_n 24 rfl 2 dX10_laysAhead_23 rfl rfl ?_
    refine V_aload_n 25 rfl 0 dX10_laysAhead_24 rfl rfl ?_
    refine V_getr 28 rfl 38 0 dX10_laysAhead_25 fl_X10_11 rfl rfl rfl ?_
    refine V_sipush 31 rfl (v := 1356) dX10_laysAhead_28 (by decide) ?_
    refine V_iald 32 rfl dX10_laysAhead_31 rfl (by decide) ?_
    refine V_icmp_ge 35 115 rfl dX10_laysAhead_32 (by decide) (fun c => ?_) (fun c => ?_)
    · have h := zpos c h
      exact V_w (zsub_n (zsub_n (zsub_n (zsub_s zsub_0)))) (ke s.2 (zinj h))
    · have h := zneg c h
      refine V_iconst 36 rfl (v := 0) dX10_laysAhead_35 (by decide) ?_
      refine V_istore_n 37 rfl 3 (L' := [some (zK 10 0), some (zI v1), some (zI s.1), some (zI 0)]) dX10_laysAhead_36 rfl (by decide) rfl ?_
      obtain ⟨o10, h1, h⟩ := zbd h
      refine wX10_laysAhead_L37 hd h1 (fun y8 e => ?_)
      have h := zcl_ e h
      refine V_iinc 112 rfl (s.1 + 1) (L' := [some (zK 10 0), some (zI v1), some (zI (s.1 + 1)), none]) dX10_laysAhead_109 rfl rfl (by decide) rfl ?_
      refine V_goto 23 dX10_laysAhead_112 (by decide) ?_
      exact kc ((s.1 + 1), y8) (zinj h)
theorem wX10_laysAhead {E : zE} {d : Nat} (hd : 1 ≤ d) {Q : Option zV → zM → Prop} {v1 : Int32} {mm : zM} {o : zM} (h : fX10_laysAhead v1 mm = some o) (hQ : ∀ r, o = r → Q none r) : V E RX10 cX10_laysAhead 4 none d Q 0 [some (zK 10 0), some (zI v1), none, none] [] mm := by
  unfold fX10_laysAhead at h
  refine V_iconst 1 rfl (v := 0) dX10_laysAhead_0 (by decide) ?_
  refine V_istore_n 2 rfl 2 (L' := [some (zK 10 0), some (zI v1), some (zI 0), none]) dX10_laysAhead_1 rfl (by decide) rfl ?_
  obtain ⟨o14, h1, h⟩ := zbd h
  refine wX10_laysAhead_L2 hd h1 (fun y1 e => ?_)
  have h := zcl_ e h
  refine V_iconst 22 rfl (v := 0) dX10_laysAhead_21 (by decide) ?_
  refine V_istore_n 23 rfl 2 (L' := [some (zK 10 0), some (zI v1), some (zI 0), none]) dX10_laysAhead_22 rfl (by decide) rfl ?_
  obtain ⟨o13, h1, h⟩ := zbd h
  refine wX10_laysAhead_L23 hd h1 (fun y11 e => ?_)
  have h := zcl_ e h
  exact V_vret dX10_laysAhead_115 rfl (hQ y11 (zinj h))
theorem ctX10_laysAhead {E : zE} {d : Nat} (hd : 1 ≤ d) {v1 : Int32} {mm : zM} {o : zM} (h : fX10_laysAhead v1 mm = some o) : zOC E yX10_laysAhead cX10_laysAhead 4 none d [zK 10 0, zI v1] mm none o :=
  zCT_of (by decide) (Nat.le_of_ble_eq_true rfl) (zk_k (zk_i zk_0)) rfl (wX10_laysAhead hd h (fun r e => ⟨rfl, by rw [e]⟩))
def fX10_countsWays_L28 (v1 : Int32) (v2 : Int32) (s : (Int32 × zM)) : Option ((Int32 × zM) ⊕ (zM ⊕ Empty)) :=
  if 12 ≤ s.1 then (some (.inr (.inl s.2))) else (if (v2 &&& ((v1 ^^^ ((-1))))) = 0 then ((fX10_has v2 s.1 s.2).bind (fun x2 => if x2 = 0 then (some (.inl ((s.1 + 1), s.2))) else (zob (zin s.1 12) (if (((gi s.2 52 0 (zn s.1))) &&& ((((v2 &&& ((((1 <<< (s.1 &&& 31))) ^^^ ((-1)))))) ^^^ ((-1))))) = 0 then (zob (zin v2 4096) (zob (zin ((v2 &&& ((((1 <<< (s.1 &&& 31))) ^^^ ((-1)))))) 4096) (zob (zin v2 4096) (some (.inl ((s.1 + 1), (wl s.2 (zn v2) ((((gl s.2 (zn v2))) + ((gl s.2 (zn ((v2 &&& ((((1 <<< (s.1 &&& 31))) ^^^ ((-1)))))))))))))))))) else (some (.inl ((s.1 + 1), s.2))))))) else (some (.inr (.inl s.2))))
def fX10_countsWays_L14 (v1 : Int32) (s : (Int32 × zM)) : Option ((Int32 × zM) ⊕ (zM ⊕ Empty)) :=
  if v1 < s.1 then (some (.inr (.inl s.2))) else (zob (zin s.1 4096) ((zloop (fX10_countsWays_L28 v1 s.1) zF (0, (wl s.2 (zn s.1) 0))).bind (fun o5 => zcase o5 (fun y3 => some (.inl ((s.1 + 1), y3))) (fun r4 => r4.elim))))
def fX10_countsWays (v1 : Int32) (mm : zM) : Option (Int64 × zM) :=
  (fX10_laysAhead v1 mm).bind (fun x1 => (zloop (fX10_countsWays_L14 v1) zF (1, (wl x1 (zn 0) 1))).bind (fun o8 => zcase o8 (fun y6 => zob (zin v1 4096) (some (((gl y6 (zn v1)), y6)))) (fun r7 => r7.elim)))
theorem wX10_countsWays_L28 {E : zE} {d : Nat} (hd : 2 ≤ d) {Q : Option zV → zM → Prop} {v1 : Int32} {v2 : Int32} {n : Nat} {s : (Int32 × zM)} {o : zM ⊕ Empty} (h : zloop (fX10_countsWays_L28 v1 v2) n s = some o) (he : ∀ y : zM, o = .inl y → V E RX10 cX10_countsWays 4 (some .long) d Q 96 [some (zK 10 0), some (zI v1), some (zI v2), none] [] y) : V E RX10 cX10_countsWays 4 (some .long) d Q 28 [some (zK 10 0), some (zI v1), some (zI v2), some (zI s.1)] [] s.2 := by
  induction n generalizing s with
  | zero => exact (zloop_0 h).elim
  | succ n ih =>
    obtain ⟨o1, h1, hc1, he1⟩ := zloop_s h
    have kc : ∀ s' : (Int32 × zM), o1 = .inl s' → V E RX10 cX10_countsWays 4 (some .long) d Q 28 [some (zK 10 0), some (zI v1), some (zI v2), some (zI s'.1)] [] s'.2 := fun s' e => ih (hc1 s' e)
    have ke : ∀ y : zM, o1 = .inr (.inl y) → V E RX10 cX10_countsWays 4 (some .long) d Q 96 [some (zK 10 0), some (zI v1), some (zI v2), none] [] y := fun y e => he y (he1 _ e)
    clear h hc1 he1 ih
    have h := h1
    clear h1
    unfold fX10_countsWays_L28 at h
    refine V_iload_n 29 rfl 3 dX10_countsWays_28 rfl rfl ?_
    refine V_bipush 31 rfl (v := 12) dX10_countsWays_29 (by decide) ?_
    refine V_icmp_ge 34 96 rfl dX10_countsWays_31 (by decide) (fun c => ?_) (fun c => ?_)
    · have h := zpos c h
      exact V_w (zsub_s (zsub_s (zsub_s (zsub_n zsub_0)))) (ke s.2 (zinj h))
    · have h := zneg c h
      refine V_iload_n 35 rfl 2 dX10_countsWays_34 rfl rfl ?_
      refine V_iload_n 36 rfl 1 dX10_countsWays_35 rfl rfl ?_
      refine V_iconst 37 rfl (v := (-1)) dX10_countsWays_36 (by decide) ?_
      refine V_ixor 38 rfl dX10_countsWays_37 ?_
      refine V_iand 39 rfl dX10_countsWays_38 ?_
      refine V_if_ne 42 96 rfl dX10_countsWays_39 (by decide) (fun c => ?_) (fun c => ?_)
      · have h := zneg c h
        exact V_w (zsub_s (zsub_s (zsub_s (zsub_n zsub_0)))) (ke s.2 (zinj h))
      · have h := zpos c h
        refine V_iload_n 43 rfl 2 dX10_countsWays_42 rfl rfl ?_
        refine V_iload_n 44 rfl 3 dX10_countsWays_43 rfl rfl ?_
        obtain ⟨x2, h1, h⟩ := zbd h
        refine V_cS 47 rfl 0 [zI v2, zI s.1] [] dX10_countsWays_44 cs_X10_133 (ctX10_has (Nat.le_refl 0) h1) (Nat.le_trans (by decide) hd) rfl rfl (Nat.le_of_ble_eq_true rfl) zoki rfl ?_
        refine V_if_eq 50 90 rfl dX10_countsWays_47 (by decide) (fun c => ?_) (fun c => ?_)
        · have h := zpos c h
          refine V_iinc 93 rfl (s.1 + 1) (L' := [some (zK 10 0), some (zI v1), some (zI v2), some (zI (s.1 + 1))]) dX10_countsWays_90 rfl rfl (by decide) rfl ?_
          refine V_goto 28 dX10_countsWays_93 (by decide) ?_
          exact kc ((s.1 + 1), s.2) (zinj h)
        · have h := zneg c h
          refine V_aload_n 51 rfl 0 dX10_countsWays_50 rfl rfl ?_
          refine V_getr 54 rfl 52 0 dX10_countsWays_51 fl_X10_56 rfl rfl rfl ?_
          refine V_iload_n 55 rfl 3 dX10_countsWays_54 rfl rfl ?_
          obtain ⟨hi, h⟩ := zobd h
          refine V_iald 56 rfl dX10_countsWays_55 rfl hi ?_
          refine V_iload_n 57 rfl 2 dX10_countsWays_56 rfl rfl ?_
          refine V_iconst 58 rfl (v := 1) dX10_countsWays_57 (by decide) ?_
          refine V_iload_n 59 rfl 3 dX10_countsWays_58 rfl rfl ?_
          refine V_ishl 60 rfl dX10_countsWays_59 ?_
          refine V_iconst 61 rfl (v := (-1)) dX10_countsWays_60 (by decide) ?_
          refine V_ixor 62 rfl dX10_countsWays_61 ?_
          refine V_iand 63 rfl dX10_countsWays_62 ?_
          refine V_iconst 64 rfl (v := (-1)) dX10_countsWays_63 (by decide) ?_
          refine V_ixor 65 rfl dX10_countsWays_64 ?_
          refine V_iand 66 rfl dX10_countsWays_65 ?_
          refine V_if_ne 69 90 rfl dX10_countsWays_66 (by decide) (fun c => ?_) (fun c => ?_)
          · have h := zneg c h
            refine V_iinc 93 rfl (s.1 + 1) (L' := [some (zK 10 0), some (zI v1), some (zI v2), some (zI (s.1 + 1))]) dX10_countsWays_90 rfl rfl (by decide) rfl ?_
            refine V_goto 28 dX10_countsWays_93 (by decide) ?_
            exact kc ((s.1 + 1), s.2) (zinj h)
          · have h := zpos c h
            refine V_aload_n 70 rfl 0 dX10_countsWays_69 rfl rfl ?_
            refine V_getr 73 rfl 53 0 dX10_countsWays_70 fl_X10_59 rfl rfl rfl ?_
            refine V_iload_n 74 rfl 2 dX10_countsWays_73 rfl rfl ?_
            refine V_dup2 75 rfl dX10_countsWays_74 rfl rfl ?_
            obtain ⟨hi, h⟩ := zobd h
            refine V_lald 76 rfl dX10_countsWays_75 rfl hi ?_
            refine V_aload_n 77 rfl 0 dX10_countsWays_76 rfl rfl ?_
            refine V_getr 80 rfl 53 0 dX10_countsWays_77 fl_X10_59 rfl rfl rfl ?_
            refine V_iload_n 81 rfl 2 dX10_countsWays_80 rfl rfl ?_
            refine V_iconst 82 rfl (v := 1) dX10_countsWays_81 (by decide) ?_
            refine V_iload_n 83 rfl 3 dX10_countsWays_82 rfl rfl ?_
            refine V_ishl 84 rfl dX10_countsWays_83 ?_
            refine V_iconst 85 rfl (v := (-1)) dX10_countsWays_84 (by decide) ?_
            refine V_ixor 86 rfl dX10_countsWays_85 ?_
            refine V_iand 87 rfl dX10_countsWays_86 ?_
            obtain ⟨hi, h⟩ := zobd h
            refine V_lald 88 rfl dX10_countsWays_87 rfl hi ?_
            refine V_ladd 89 rfl dX10_countsWays_88 ?_
            obtain ⟨hi, h⟩ := zobd h
            refine V_last 90 rfl dX10_countsWays_89 rfl hi ?_
            refine V_iinc 93 rfl (s.1 + 1) (L' := [some (zK 10 0), some (zI v1), some (zI v2), some (zI (s.1 + 1))]) dX10_countsWays_90 rfl rfl (by decide) rfl ?_
            refine V_goto 28 dX10_countsWays_93 (by decide) ?_
            exact kc ((s.1 + 1), (wl s.2 (zn v2) ((((gl s.2 (zn v2))) + ((gl s.2 (zn ((v2 &&& ((((1 <<< (s.1 &&& 31))) ^^^ ((-1))))))))))))) (zinj h)
theorem wX10_countsWays_L14 {E : zE} {d : Nat} (hd : 2 ≤ d) {Q : Option zV → zM → Prop} {v1 : Int32} {n : Nat} {s : (Int32 × zM)} {o : zM ⊕ Empty} (h : zloop (fX10_countsWays_L14 v1) n s = some o) (he : ∀ y : zM, o = .inl y → V E RX10 cX10_countsWays 4 (some .long) d Q 102 [some (zK 10 0), some (zI v1), none, none] [] y) : V E RX10 cX10_countsWays 4 (some .long) d Q 14 [some (zK 10 0), some (zI v1), some (zI s.1), none] [] s.2 := by
  induction n generalizing s with
  | zero => exact (zloop_0 h).elim
  | succ n ih =>
    obtain ⟨o1, h1, hc1, he1⟩ := zloop_s h
    have kc : ∀ s' : (Int32 × zM), o1 = .inl s' → V E RX10 cX10_countsWays 4 (some .long) d Q 14 [some (zK 10 0), some (zI v1), some (zI s'.1), none] [] s'.2 := fun s' e => ih (hc1 s' e)
    have ke : ∀ y : zM, o1 = .inr (.inl y) → V E RX10 cX10_countsWays 4 (some .long) d Q 102 [some (zK 10 0), some (zI v1), none, none] [] y := fun y e => he y (he1 _ e)
    clear h hc1 he1 ih
    have h := h1
    clear h1
    unfold fX10_countsWays_L14 at h
    refine V_iload_n 15 rfl 2 dX10_countsWays_14 rfl rfl ?_
    refine V_iload_n 16 rfl 1 dX10_countsWays_15 rfl rfl ?_
    refine V_icmp_gt 19 102 rfl dX10_countsWays_16 (by decide) (fun c => ?_) (fun c => ?_)
    · have h := zpos c h
      exact V_w (zsub_s (zsub_s (zsub_n (zsub_s zsub_0)))) (ke s.2 (zinj h))
    · have h := zneg c h
      refine V_aload_n 20 rfl 0 dX10_countsWays_19 rfl rfl ?_
      refine V_getr 23 rfl 53 0 dX10_countsWays_20 fl_X10_59 rfl rfl rfl ?_
      refine V_iload_n 24 rfl 2 dX10_countsWays_23 rfl rfl ?_
      refine V_lconst 25 rfl (v := 0) dX10_countsWays_24 (by decide) ?_
      obtain ⟨hi, h⟩ := zobd h
      refine V_last 26 rfl dX10_countsWays_25 rfl hi ?_
      refine V_iconst 27 rfl (v := 0) dX10_countsWays_26 (by decide) ?_
      refine V_istore_n 28 rfl 3 (L' := [some (zK 10 0), some (zI v1), some (zI s.1), some (zI 0)]) dX10_countsWays_27 rfl (by decide) rfl ?_
      obtain ⟨o5, h1, h⟩ := zbd h
      refine wX10_countsWays_L28 hd h1 (fun y3 e => ?_)
      have h := zcl_ e h
      refine V_iinc 99 rfl (s.1 + 1) (L' := [some (zK 10 0), some (zI v1), some (zI (s.1 + 1)), none]) dX10_countsWays_96 rfl rfl (by decide) rfl ?_
      refine V_goto 14 dX10_countsWays_99 (by decide) ?_
      exact kc ((s.1 + 1), y3) (zinj h)
theorem wX10_countsWays {E : zE} {d : Nat} (hd : 2 ≤ d) {Q : Option zV → zM → Prop} {v1 : Int32} {mm : zM} {o : (Int64 × zM)} (h : fX10_countsWays v1 mm = some o) (hQ : ∀ r, o = r → Q (some (zJ r.1)) r.2) : V E RX10 cX10_countsWays 4 (some .long) d Q 0 [some (zK 10 0), some (zI v1), none, none] [] mm := by
  unfold fX10_countsWays at h
  refine V_aload_n 1 rfl 0 dX10_countsWays_0 rfl rfl ?_
  refine V_iload_n 2 rfl 1 dX10_countsWays_1 rfl rfl ?_
  obtain ⟨x1, h1, h⟩ := zbd h
  refine V_cV 5 rfl 1 [zI v1] [] dX10_countsWays_2 cv_X10_291 (ctX10_laysAhead (Nat.le_refl 1) h1) (Nat.le_trans (by decide) hd) rfl rfl (Nat.le_of_ble_eq_true rfl) zokn rfl ?_
  refine V_aload_n 6 rfl 0 dX10_countsWays_5 rfl rfl ?_
  refine V_getr 9 rfl 53 0 dX10_countsWays_6 fl_X10_59 rfl rfl rfl ?_
  refine V_iconst 10 rfl (v := 0) dX10_countsWays_9 (by decide) ?_
  refine V_lconst 11 rfl (v := 1) dX10_countsWays_10 (by decide) ?_
  refine V_last 12 rfl dX10_countsWays_11 rfl (by decide) ?_
  refine V_iconst 13 rfl (v := 1) dX10_countsWays_12 (by decide) ?_
  refine V_istore_n 14 rfl 2 (L' := [some (zK 10 0), some (zI v1), some (zI 1), none]) dX10_countsWays_13 rfl (by decide) rfl ?_
  obtain ⟨o8, h1, h⟩ := zbd h
  refine wX10_countsWays_L14 hd h1 (fun y6 e => ?_)
  have h := zcl_ e h
  refine V_aload_n 103 rfl 0 dX10_countsWays_102 rfl rfl ?_
  refine V_getr 106 rfl 53 0 dX10_countsWays_103 fl_X10_59 rfl rfl rfl ?_
  refine V_iload_n 107 rfl 1 dX10_countsWays_106 rfl rfl ?_
  obtain ⟨hi, h⟩ := zobd h
  refine V_lald 108 rfl dX10_countsWays_107 rfl hi ?_
  exact V_lret dX10_countsWays_108 rfl (hQ (((gl y6 (zn v1)), y6)) (zinj h))
theorem ctX10_countsWays {E : zE} {d : Nat} (hd : 2 ≤ d) {v1 : Int32} {mm : zM} {o : (Int64 × zM)} (h : fX10_countsWays v1 mm = some o) : zOC E yX10_countsWays cX10_countsWays 4 (some .long) d [zK 10 0, zI v1] mm (some (zJ o.1)) o.2 :=
  zCT_of (by decide) (Nat.le_of_ble_eq_true rfl) (zk_k (zk_i zk_0)) rfl (wX10_countsWays hd h (fun r e => ⟨by rw [e], by rw [e]⟩))
def fX10_orders (v1 : Int32) (mm : zM) : Option (Int64 × zM) :=
  (fX10_isType v1 mm).bind (fun x1 => if x1 = 0 then (some (((-1), mm))) else ((fX10_overSet v1 mm).bind (fun x2 => (fX10_countsWays x2 mm).bind (fun x3 => some ((x3.1, x3.2))))))
theorem wX10_orders {E : zE} {d : Nat} (hd : 3 ≤ d) {Q : Option zV → zM → Prop} {v1 : Int32} {mm : zM} {o : (Int64 × zM)} (h : fX10_orders v1 mm = some o) (hQ : ∀ r, o = r → Q (some (zJ r.1)) r.2) : V E RX10 cX10_orders 2 (some .long) d Q 0 [some (zK 10 0), some (zI v1)] [] mm := by
  unfold fX10_orders at h
  refine V_aload_n 1 rfl 0 dX10_orders_0 rfl rfl ?_
  refine V_iload_n 2 rfl 1 dX10_orders_1 rfl rfl ?_
  obtain ⟨x1, h1, h⟩ := zbd h
  refine V_cV 5 rfl 2 [zI v1] [] dX10_orders_2 cv_X10_258 (ctX10_isType (Nat.le_refl 2) h1) (Nat.le_trans (by decide) hd) rfl rfl (Nat.le_of_ble_eq_true rfl) zoki rfl ?_
  refine V_if_eq 8 20 rfl dX10_orders_5 (by decide) (fun c => ?_) (fun c => ?_)
  · have h := zpos c h
    refine V_ldc2 23 rfl (v := (-1)) dX10_orders_20 tb_1519 ?_
    exact V_lret dX10_orders_23 rfl (hQ (((-1), mm)) (zinj h))
  · have h := zneg c h
    refine V_aload_n 9 rfl 0 dX10_orders_8 rfl rfl ?_
    refine V_aload_n 10 rfl 0 dX10_orders_9 rfl rfl ?_
    refine V_iload_n 11 rfl 1 dX10_orders_10 rfl rfl ?_
    obtain ⟨x2, h1, h⟩ := zbd h
    refine V_cV 14 rfl 1 [zI v1] [zK 10 0] dX10_orders_11 cv_X10_288 (ctX10_overSet (Nat.le_refl 1) h1) (Nat.le_trans (by decide) hd) rfl rfl (Nat.le_of_ble_eq_true rfl) zoki rfl ?_
    obtain ⟨x3, h1, h⟩ := zbd h
    refine V_cV 17 rfl 2 [zI x2] [] dX10_orders_14 cv_X10_294 (ctX10_countsWays (Nat.le_refl 2) h1) (Nat.le_trans (by decide) hd) rfl rfl (Nat.le_of_ble_eq_true rfl) zokj rfl ?_
    refine V_goto 23 dX10_orders_17 (by decide) ?_
    exact V_lret dX10_orders_23 rfl (hQ ((x3.1, x3.2)) (zinj h))
theorem ctX10_orders {E : zE} {d : Nat} (hd : 3 ≤ d) {v1 : Int32} {mm : zM} {o : (Int64 × zM)} (h : fX10_orders v1 mm = some o) : zOC E yX10_orders cX10_orders 2 (some .long) d [zK 10 0, zI v1] mm (some (zJ o.1)) o.2 :=
  zCT_of (by decide) (Nat.le_of_ble_eq_true rfl) (zk_k (zk_i zk_0)) rfl (wX10_orders hd h (fun r e => ⟨by rw [e], by rw [e]⟩))
def fX10_first_L66 (v2 : Int32) (v3 : Int32) (v4 : Int32) (v6 : Int32) (mm : zM) (s : Int32) : Option (Int32 ⊕ (Int32 ⊕ Empty)) :=
  (fX10_has ((v3 &&& ((v4 ^^^ ((-1)))))) s mm).bind (fun x8 => if x8 = 0 then (some (.inl (s + 1))) else (zob (zin s 12) (if (((gi mm 52 0 (zn s))) &&& ((v4 ^^^ ((-1))))) = 0 then (some (.inr (.inl s))) else (some (.inl (s + 1))))))
def fX10_first_L57 (v2 : Int32) (v3 : Int32) (mm : zM) (s : (Int32 × Int32 × Int32)) : Option ((Int32 × Int32 × Int32) ⊕ (Int32 ⊕ Empty)) :=
  if v2 < s.2.2 then (some (.inr (.inl s.2.1))) else ((zloop (fX10_first_L66 v2 v3 s.1 s.2.2 mm) zF 0).bind (fun o11 => zcase o11 (fun y9 => some (.inl ((s.1 ||| ((1 <<< (y9 &&& 31)))), y9, (s.2.2 + 1)))) (fun r10 => r10.elim)))
def fX10_first (v1 : Int32) (v2 : Int32) (mm : zM) : Option (Int32 × zM) :=
  (fX10_isType v1 mm).bind (fun x1 => if x1 = 0 then (some (((-1), mm))) else ((fX10_overSet v1 mm).bind (fun x2 => (fJ6_bitCount x2 mm).bind (fun x3 => (fX10_in v2 0 ((x3 - 1)) mm).bind (fun x4 => if x4 = 0 then (some (((-1), mm))) else ((fX10_overSet v1 mm).bind (fun x5 => (fX10_countsWays x5 mm).bind (fun x6 => if (lg_cmp x6.1 0) = 0 then (some (((-1), x6.2))) else ((fX10_overSet v1 x6.2).bind (fun x7 => (zloop (fX10_first_L57 v2 x7 x6.2) zF (0, (-1), 0)).bind (fun o14 => zcase o14 (fun y12 => some ((y12, x6.2))) (fun r13 => r13.elim))))))))))))
theorem wX10_first_L66 {E : zE} {d : Nat} (hd : 3 ≤ d) {Q : Option zV → zM → Prop} {v2 : Int32} {v3 : Int32} {v4 : Int32} {v6 : Int32} {mm : zM} {n : Nat} {s : Int32} {o : Int32 ⊕ Empty} (h : zloop (fX10_first_L66 v2 v3 v4 v6 mm) n s = some o) (he : ∀ y : Int32, o = .inl y → V E RX10 cX10_first 8 (some .int) d Q 101 [some (zK 10 0), none, some (zI v2), some (zI v3), some (zI v4), none, some (zI v6), some (zI y)] [] mm) : V E RX10 cX10_first 8 (some .int) d Q 66 [some (zK 10 0), none, some (zI v2), some (zI v3), some (zI v4), none, some (zI v6), some (zI s)] [] mm := by
  induction n generalizing s with
  | zero => exact (zloop_0 h).elim
  | succ n ih =>
    obtain ⟨o1, h1, hc1, he1⟩ := zloop_s h
    have kc : ∀ s' : Int32, o1 = .inl s' → V E RX10 cX10_first 8 (some .int) d Q 66 [some (zK 10 0), none, some (zI v2), some (zI v3), some (zI v4), none, some (zI v6), some (zI s')] [] mm := fun s' e => ih (hc1 s' e)
    have ke : ∀ y : Int32, o1 = .inr (.inl y) → V E RX10 cX10_first 8 (some .int) d Q 101 [some (zK 10 0), none, some (zI v2), some (zI v3), some (zI v4), none, some (zI v6), some (zI y)] [] mm := fun y e => he y (he1 _ e)
    clear h hc1 he1 ih
    have h := h1
    clear h1
    unfold fX10_first_L66 at h
    refine V_iload_n 67 rfl 3 dX10_first_66 rfl rfl ?_
    refine V_iload 69 rfl dX10_first_67 rfl ?_
    refine V_iconst 70 rfl (v := (-1)) dX10_first_69 (by decide) ?_
    refine V_ixor 71 rfl dX10_first_70 ?_
    refine V_iand 72 rfl dX10_first_71 ?_
    refine V_iload 74 rfl dX10_first_72 rfl ?_
    obtain ⟨x8, h1, h⟩ := zbd h
    refine V_cS 77 rfl 0 [zI (v3 &&& ((v4 ^^^ ((-1))))), zI s] [] dX10_first_74 cs_X10_133 (ctX10_has (Nat.le_refl 0) h1) (Nat.le_trans (by decide) hd) rfl rfl (Nat.le_of_ble_eq_true rfl) zoki rfl ?_
    refine V_if_eq 80 95 rfl dX10_first_77 (by decide) (fun c => ?_) (fun c => ?_)
    · have h := zpos c h
      refine V_iinc 98 rfl (s + 1) (L' := [some (zK 10 0), none, some (zI v2), some (zI v3), some (zI v4), none, some (zI v6), some (zI (s + 1))]) dX10_first_95 rfl rfl (by decide) rfl ?_
      refine V_goto 66 dX10_first_98 (by decide) ?_
      exact kc (s + 1) (zinj h)
    · have h := zneg c h
      refine V_aload_n 81 rfl 0 dX10_first_80 rfl rfl ?_
      refine V_getr 84 rfl 52 0 dX10_first_81 fl_X10_56 rfl rfl rfl ?_
      refine V_iload 86 rfl dX10_first_84 rfl ?_
      obtain ⟨hi, h⟩ := zobd h
      refine V_iald 87 rfl dX10_first_86 rfl hi ?_
      refine V_iload 89 rfl dX10_first_87 rfl ?_
      refine V_iconst 90 rfl (v := (-1)) dX10_first_89 (by decide) ?_
      refine V_ixor 91 rfl dX10_first_90 ?_
      refine V_iand 92 rfl dX10_first_91 ?_
      refine V_if_eq 95 101 rfl dX10_first_92 (by decide) (fun c => ?_) (fun c => ?_)
      · have h := zpos c h
        exact ke s (zinj h)
      · have h := zneg c h
        refine V_iinc 98 rfl (s + 1) (L' := [some (zK 10 0), none, some (zI v2), some (zI v3), some (zI v4), none, some (zI v6), some (zI (s + 1))]) dX10_first_95 rfl rfl (by decide) rfl ?_
        refine V_goto 66 dX10_first_98 (by decide) ?_
        exact kc (s + 1) (zinj h)
theorem wX10_first_L57 {E : zE} {d : Nat} (hd : 3 ≤ d) {Q : Option zV → zM → Prop} {v2 : Int32} {v3 : Int32} {mm : zM} {n : Nat} {s : (Int32 × Int32 × Int32)} {o : Int32 ⊕ Empty} (h : zloop (fX10_first_L57 v2 v3 mm) n s = some o) (he : ∀ y : Int32, o = .inl y → V E RX10 cX10_first 8 (some .int) d Q 120 [none, none, none, none, none, some (zI y), none, none] [] mm) : V E RX10 cX10_first 8 (some .int) d Q 57 [some (zK 10 0), none, some (zI v2), some (zI v3), some (zI s.1), some (zI s.2.1), some (zI s.2.2), none] [] mm := by
  induction n generalizing s with
  | zero => exact (zloop_0 h).elim
  | succ n ih =>
    obtain ⟨o1, h1, hc1, he1⟩ := zloop_s h
    have kc : ∀ s' : (Int32 × Int32 × Int32), o1 = .inl s' → V E RX10 cX10_first 8 (some .int) d Q 57 [some (zK 10 0), none, some (zI v2), some (zI v3), some (zI s'.1), some (zI s'.2.1), some (zI s'.2.2), none] [] mm := fun s' e => ih (hc1 s' e)
    have ke : ∀ y : Int32, o1 = .inr (.inl y) → V E RX10 cX10_first 8 (some .int) d Q 120 [none, none, none, none, none, some (zI y), none, none] [] mm := fun y e => he y (he1 _ e)
    clear h hc1 he1 ih
    have h := h1
    clear h1
    unfold fX10_first_L57 at h
    refine V_iload 59 rfl dX10_first_57 rfl ?_
    refine V_iload_n 60 rfl 2 dX10_first_59 rfl rfl ?_
    refine V_icmp_gt 63 120 rfl dX10_first_60 (by decide) (fun c => ?_) (fun c => ?_)
    · have h := zpos c h
      exact V_w (zsub_n (zsub_s (zsub_n (zsub_n (zsub_n (zsub_s (zsub_n (zsub_s zsub_0)))))))) (ke s.2.1 (zinj h))
    · have h := zneg c h
      refine V_iconst 64 rfl (v := 0) dX10_first_63 (by decide) ?_
      refine V_istore 66 rfl (L' := [some (zK 10 0), none, some (zI v2), some (zI v3), some (zI s.1), some (zI s.2.1), some (zI s.2.2), some (zI 0)]) dX10_first_64 (by decide) rfl ?_
      obtain ⟨o11, h1, h⟩ := zbd h
      refine V_w (zsub_s (zsub_s (zsub_s (zsub_s (zsub_s (zsub_n (zsub_s (zsub_s zsub_0)))))))) (wX10_first_L66 hd h1 (fun y9 e => ?_))
      have h := zcl_ e h
      refine V_iload 103 rfl dX10_first_101 rfl ?_
      refine V_iconst 104 rfl (v := 1) dX10_first_103 (by decide) ?_
      refine V_iload 106 rfl dX10_first_104 rfl ?_
      refine V_ishl 107 rfl dX10_first_106 ?_
      refine V_ior 108 rfl dX10_first_107 ?_
      refine V_istore 110 rfl (L' := [some (zK 10 0), none, some (zI v2), some (zI v3), some (zI (s.1 ||| ((1 <<< (y9 &&& 31))))), none, some (zI s.2.2), some (zI y9)]) dX10_first_108 (by decide) rfl ?_
      refine V_iload 112 rfl dX10_first_110 rfl ?_
      refine V_istore 114 rfl (L' := [some (zK 10 0), none, some (zI v2), some (zI v3), some (zI (s.1 ||| ((1 <<< (y9 &&& 31))))), some (zI y9), some (zI s.2.2), some (zI y9)]) dX10_first_112 (by decide) rfl ?_
      refine V_iinc 117 rfl (s.2.2 + 1) (L' := [some (zK 10 0), none, some (zI v2), some (zI v3), some (zI (s.1 ||| ((1 <<< (y9 &&& 31))))), some (zI y9), some (zI (s.2.2 + 1)), some (zI y9)]) dX10_first_114 rfl rfl (by decide) rfl ?_
      refine V_goto 57 dX10_first_117 (by decide) ?_
      exact V_w (zsub_s (zsub_s (zsub_s (zsub_s (zsub_s (zsub_s (zsub_s (zsub_n zsub_0)))))))) (kc ((s.1 ||| ((1 <<< (y9 &&& 31)))), y9, (s.2.2 + 1)) (zinj h))
theorem wX10_first {E : zE} {d : Nat} (hd : 3 ≤ d) {Q : Option zV → zM → Prop} {v1 : Int32} {v2 : Int32} {mm : zM} {o : (Int32 × zM)} (h : fX10_first v1 v2 mm = some o) (hQ : ∀ r, o = r → Q (some (zI r.1)) r.2) : V E RX10 cX10_first 8 (some .int) d Q 0 [some (zK 10 0), some (zI v1), some (zI v2), none, none, none, none, none] [] mm := by
  unfold fX10_first at h
  refine V_aload_n 1 rfl 0 dX10_first_0 rfl rfl ?_
  refine V_iload_n 2 rfl 1 dX10_first_1 rfl rfl ?_
  obtain ⟨x1, h1, h⟩ := zbd h
  refine V_cV 5 rfl 2 [zI v1] [] dX10_first_2 cv_X10_258 (ctX10_isType (Nat.le_refl 2) h1) (Nat.le_trans (by decide) hd) rfl rfl (Nat.le_of_ble_eq_true rfl) zoki rfl ?_
  refine V_if_eq 8 40 rfl dX10_first_5 (by decide) (fun c => ?_) (fun c => ?_)
  · have h := zpos c h
    refine V_iconst 41 rfl (v := (-1)) dX10_first_40 (by decide) ?_
    exact V_iret dX10_first_41 rfl (hQ (((-1), mm)) (zinj h))
  · have h := zneg c h
    refine V_iload_n 9 rfl 2 dX10_first_8 rfl rfl ?_
    refine V_iconst 10 rfl (v := 0) dX10_first_9 (by decide) ?_
    refine V_aload_n 11 rfl 0 dX10_first_10 rfl rfl ?_
    refine V_iload_n 12 rfl 1 dX10_first_11 rfl rfl ?_
    obtain ⟨x2, h1, h⟩ := zbd h
    refine V_cV 15 rfl 1 [zI v1] [zI 0, zI v2] dX10_first_12 cv_X10_288 (ctX10_overSet (Nat.le_refl 1) h1) (Nat.le_trans (by decide) hd) rfl rfl (Nat.le_of_ble_eq_true rfl) zoki rfl ?_
    obtain ⟨x3, h1, h⟩ := zbd h
    refine V_cS 18 rfl 0 [zI x2] [zI 0, zI v2] dX10_first_15 cs_X10_300 (ctJ6_bitCount (Nat.le_refl 0) h1) (Nat.le_trans (by decide) hd) rfl rfl (Nat.le_of_ble_eq_true rfl) zoki rfl ?_
    refine V_iconst 19 rfl (v := 1) dX10_first_18 (by decide) ?_
    refine V_isub 20 rfl dX10_first_19 ?_
    obtain ⟨x4, h1, h⟩ := zbd h
    refine V_cS 23 rfl 0 [zI v2, zI 0, zI (x3 - 1)] [] dX10_first_20 cs_X10_88 (ctX10_in (Nat.le_refl 0) h1) (Nat.le_trans (by decide) hd) rfl rfl (Nat.le_of_ble_eq_true rfl) zoki rfl ?_
    refine V_if_eq 26 40 rfl dX10_first_23 (by decide) (fun c => ?_) (fun c => ?_)
    · have h := zpos c h
      refine V_iconst 41 rfl (v := (-1)) dX10_first_40 (by decide) ?_
      exact V_iret dX10_first_41 rfl (hQ (((-1), mm)) (zinj h))
    · have h := zneg c h
      refine V_aload_n 27 rfl 0 dX10_first_26 rfl rfl ?_
      refine V_aload_n 28 rfl 0 dX10_first_27 rfl rfl ?_
      refine V_iload_n 29 rfl 1 dX10_first_28 rfl rfl ?_
      obtain ⟨x5, h1, h⟩ := zbd h
      refine V_cV 32 rfl 1 [zI v1] [zK 10 0] dX10_first_29 cv_X10_288 (ctX10_overSet (Nat.le_refl 1) h1) (Nat.le_trans (by decide) hd) rfl rfl (Nat.le_of_ble_eq_true rfl) zoki rfl ?_
      obtain ⟨x6, h1, h⟩ := zbd h
      refine V_cV 35 rfl 2 [zI x5] [] dX10_first_32 cv_X10_294 (ctX10_countsWays (Nat.le_refl 2) h1) (Nat.le_trans (by decide) hd) rfl rfl (Nat.le_of_ble_eq_true rfl) zokj rfl ?_
      refine V_lconst 36 rfl (v := 0) dX10_first_35 (by decide) ?_
      refine V_lcmp 37 rfl dX10_first_36 ?_
      refine V_if_ne 40 42 rfl dX10_first_37 (by decide) (fun c => ?_) (fun c => ?_)
      · have h := zneg c h
        refine V_aload_n 43 rfl 0 dX10_first_42 rfl rfl ?_
        refine V_iload_n 44 rfl 1 dX10_first_43 rfl rfl ?_
        obtain ⟨x7, h1, h⟩ := zbd h
        refine V_cV 47 rfl 1 [zI v1] [] dX10_first_44 cv_X10_288 (ctX10_overSet (Nat.le_refl 1) h1) (Nat.le_trans (by decide) hd) rfl rfl (Nat.le_of_ble_eq_true rfl) zoki rfl ?_
        refine V_istore_n 48 rfl 3 (L' := [some (zK 10 0), some (zI v1), some (zI v2), some (zI x7), none, none, none, none]) dX10_first_47 rfl (by decide) rfl ?_
        refine V_iconst 49 rfl (v := 0) dX10_first_48 (by decide) ?_
        refine V_istore 51 rfl (L' := [some (zK 10 0), some (zI v1), some (zI v2), some (zI x7), some (zI 0), none, none, none]) dX10_first_49 (by decide) rfl ?_
        refine V_iconst 52 rfl (v := (-1)) dX10_first_51 (by decide) ?_
        refine V_istore 54 rfl (L' := [some (zK 10 0), some (zI v1), some (zI v2), some (zI x7), some (zI 0), some (zI (-1)), none, none]) dX10_first_52 (by decide) rfl ?_
        refine V_iconst 55 rfl (v := 0) dX10_first_54 (by decide) ?_
        refine V_istore 57 rfl (L' := [some (zK 10 0), some (zI v1), some (zI v2), some (zI x7), some (zI 0), some (zI (-1)), some (zI 0), none]) dX10_first_55 (by decide) rfl ?_
        obtain ⟨o14, h1, h⟩ := zbd h
        refine V_w (zsub_s (zsub_n (zsub_s (zsub_s (zsub_s (zsub_s (zsub_s (zsub_s zsub_0)))))))) (wX10_first_L57 hd h1 (fun y12 e => ?_))
        have h := zcl_ e h
        refine V_iload 122 rfl dX10_first_120 rfl ?_
        exact V_iret dX10_first_122 rfl (hQ ((y12, x6.2)) (zinj h))
      · have h := zpos c h
        refine V_iconst 41 rfl (v := (-1)) dX10_first_40 (by decide) ?_
        exact V_iret dX10_first_41 rfl (hQ (((-1), x6.2)) (zinj h))
theorem ctX10_first {E : zE} {d : Nat} (hd : 3 ≤ d) {v1 : Int32} {v2 : Int32} {mm : zM} {o : (Int32 × zM)} (h : fX10_first v1 v2 mm = some o) : zOC E yX10_first cX10_first 8 (some .int) d [zK 10 0, zI v1, zI v2] mm (some (zI o.1)) o.2 :=
  zCT_of (by decide) (Nat.le_of_ble_eq_true rfl) (zk_k (zk_i (zk_i zk_0))) rfl (wX10_first hd h (fun r e => ⟨by rw [e], by rw [e]⟩))
def fX10_aheadOf_L19 (v3 : Int32) (mm : zM) (s : (Int32 × Int32)) : Option ((Int32 × Int32) ⊕ (Int32 ⊕ Empty)) :=
  if 12 ≤ s.2 then (some (.inr (.inl s.1))) else ((fX10_has v3 s.2 mm).bind (fun x1 => if x1 = 0 then (some (.inl ((s.1 ||| 0), (s.2 + 1)))) else (zob (zin s.2 12) (some (.inl ((s.1 ||| ((gi mm 52 0 (zn s.2)))), (s.2 + 1)))))))
def fX10_aheadOf_L9 (mm : zM) (s : (Int32 × Int32)) : Option ((Int32 × Int32) ⊕ (Int32 ⊕ Empty)) :=
  if s.1 = s.2 then (some (.inr (.inl s.1))) else ((zloop (fX10_aheadOf_L19 s.1 mm) zF (s.1, 0)).bind (fun o4 => zcase o4 (fun y2 => some (.inl (y2, s.1))) (fun r3 => r3.elim)))
def fX10_aheadOf (v1 : Int32) (mm : zM) : Option Int32 :=
  zob (zin v1 12) ((zloop (fX10_aheadOf_L9 mm) zF ((gi mm 52 0 (zn v1)), 0)).bind (fun o7 => zcase o7 (fun y5 => some y5) (fun r6 => r6.elim)))
theorem wX10_aheadOf_L19 {E : zE} {d : Nat} (hd : 1 ≤ d) {Q : Option zV → zM → Prop} {v3 : Int32} {mm : zM} {n : Nat} {s : (Int32 × Int32)} {o : Int32 ⊕ Empty} (h : zloop (fX10_aheadOf_L19 v3 mm) n s = some o) (he : ∀ y : Int32, o = .inl y → V E RX10 cX10_aheadOf 5 (some .int) d Q 55 [some (zK 10 0), none, some (zI y), some (zI v3), none] [] mm) : V E RX10 cX10_aheadOf 5 (some .int) d Q 19 [some (zK 10 0), none, some (zI s.1), some (zI v3), some (zI s.2)] [] mm := by
  induction n generalizing s with
  | zero => exact (zloop_0 h).elim
  | succ n ih =>
    obtain ⟨o1, h1, hc1, he1⟩ := zloop_s h
    have kc : ∀ s' : (Int32 × Int32), o1 = .inl s' → V E RX10 cX10_aheadOf 5 (some .int) d Q 19 [some (zK 10 0), none, some (zI s'.1), some (zI v3), some (zI s'.2)] [] mm := fun s' e => ih (hc1 s' e)
    have ke : ∀ y : Int32, o1 = .inr (.inl y) → V E RX10 cX10_aheadOf 5 (some .int) d Q 55 [some (zK 10 0), none, some (zI y), some (zI v3), none] [] mm := fun y e => he y (he1 _ e)
    clear h hc1 he1 ih
    have h := h1
    clear h1
    unfold fX10_aheadOf_L19 at h
    refine V_iload 21 rfl dX10_aheadOf_19 rfl ?_
    refine V_bipush 23 rfl (v := 12) dX10_aheadOf_21 (by decide) ?_
    refine V_icmp_ge 26 55 rfl dX10_aheadOf_23 (by decide) (fun c => ?_) (fun c => ?_)
    · have h := zpos c h
      exact V_w (zsub_s (zsub_s (zsub_s (zsub_s (zsub_n zsub_0))))) (ke s.1 (zinj h))
    · have h := zneg c h
      refine V_iload_n 27 rfl 2 dX10_aheadOf_26 rfl rfl ?_
      refine V_iload_n 28 rfl 3 dX10_aheadOf_27 rfl rfl ?_
      refine V_iload 30 rfl dX10_aheadOf_28 rfl ?_
      obtain ⟨x1, h1, h⟩ := zbd h
      refine V_cS 33 rfl 0 [zI v3, zI s.2] [zI s.1] dX10_aheadOf_30 cs_X10_133 (ctX10_has (Nat.le_refl 0) h1) (Nat.le_trans (by decide) hd) rfl rfl (Nat.le_of_ble_eq_true rfl) zoki rfl ?_
      refine V_if_eq 36 46 rfl dX10_aheadOf_33 (by decide) (fun c => ?_) (fun c => ?_)
      · have h := zpos c h
        refine V_iconst 47 rfl (v := 0) dX10_aheadOf_46 (by decide) ?_
        refine V_ior 48 rfl dX10_aheadOf_47 ?_
        refine V_istore_n 49 rfl 2 (L' := [some (zK 10 0), none, some (zI (s.1 ||| 0)), some (zI v3), some (zI s.2)]) dX10_aheadOf_48 rfl (by decide) rfl ?_
        refine V_iinc 52 rfl (s.2 + 1) (L' := [some (zK 10 0), none, some (zI (s.1 ||| 0)), some (zI v3), some (zI (s.2 + 1))]) dX10_aheadOf_49 rfl rfl (by decide) rfl ?_
        refine V_goto 19 dX10_aheadOf_52 (by decide) ?_
        exact kc ((s.1 ||| 0), (s.2 + 1)) (zinj h)
      · have h := zneg c h
        refine V_aload_n 37 rfl 0 dX10_aheadOf_36 rfl rfl ?_
        refine V_getr 40 rfl 52 0 dX10_aheadOf_37 fl_X10_56 rfl rfl rfl ?_
        refine V_iload 42 rfl dX10_aheadOf_40 rfl ?_
        obtain ⟨hi, h⟩ := zobd h
        refine V_iald 43 rfl dX10_aheadOf_42 rfl hi ?_
        refine V_goto 47 dX10_aheadOf_43 (by decide) ?_
        refine V_ior 48 rfl dX10_aheadOf_47 ?_
        refine V_istore_n 49 rfl 2 (L' := [some (zK 10 0), none, some (zI (s.1 ||| ((gi mm 52 0 (zn s.2))))), some (zI v3), some (zI s.2)]) dX10_aheadOf_48 rfl (by decide) rfl ?_
        refine V_iinc 52 rfl (s.2 + 1) (L' := [some (zK 10 0), none, some (zI (s.1 ||| ((gi mm 52 0 (zn s.2))))), some (zI v3), some (zI (s.2 + 1))]) dX10_aheadOf_49 rfl rfl (by decide) rfl ?_
        refine V_goto 19 dX10_aheadOf_52 (by decide) ?_
        exact kc ((s.1 ||| ((gi mm 52 0 (zn s.2)))), (s.2 + 1)) (zinj h)
theorem wX10_aheadOf_L9 {E : zE} {d : Nat} (hd : 1 ≤ d) {Q : Option zV → zM → Prop} {mm : zM} {n : Nat} {s : (Int32 × Int32)} {o : Int32 ⊕ Empty} (h : zloop (fX10_aheadOf_L9 mm) n s = some o) (he : ∀ y : Int32, o = .inl y → V E RX10 cX10_aheadOf 5 (some .int) d Q 58 [none, none, some (zI y), none, none] [] mm) : V E RX10 cX10_aheadOf 5 (some .int) d Q 9 [some (zK 10 0), none, some (zI s.1), some (zI s.2), none] [] mm := by
  induction n generalizing s with
  | zero => exact (zloop_0 h).elim
  | succ n ih =>
    obtain ⟨o1, h1, hc1, he1⟩ := zloop_s h
    have kc : ∀ s' : (Int32 × Int32), o1 = .inl s' → V E RX10 cX10_aheadOf 5 (some .int) d Q 9 [some (zK 10 0), none, some (zI s'.1), some (zI s'.2), none] [] mm := fun s' e => ih (hc1 s' e)
    have ke : ∀ y : Int32, o1 = .inr (.inl y) → V E RX10 cX10_aheadOf 5 (some .int) d Q 58 [none, none, some (zI y), none, none] [] mm := fun y e => he y (he1 _ e)
    clear h hc1 he1 ih
    have h := h1
    clear h1
    unfold fX10_aheadOf_L9 at h
    refine V_iload_n 10 rfl 2 dX10_aheadOf_9 rfl rfl ?_
    refine V_iload_n 11 rfl 3 dX10_aheadOf_10 rfl rfl ?_
    refine V_icmp_eq 14 58 rfl dX10_aheadOf_11 (by decide) (fun c => ?_) (fun c => ?_)
    · have h := zpos c h
      exact V_w (zsub_n (zsub_s (zsub_s (zsub_n (zsub_s zsub_0))))) (ke s.1 (zinj h))
    · have h := zneg c h
      refine V_iload_n 15 rfl 2 dX10_aheadOf_14 rfl rfl ?_
      refine V_istore_n 16 rfl 3 (L' := [some (zK 10 0), none, some (zI s.1), some (zI s.1), none]) dX10_aheadOf_15 rfl (by decide) rfl ?_
      refine V_iconst 17 rfl (v := 0) dX10_aheadOf_16 (by decide) ?_
      refine V_istore 19 rfl (L' := [some (zK 10 0), none, some (zI s.1), some (zI s.1), some (zI 0)]) dX10_aheadOf_17 (by decide) rfl ?_
      obtain ⟨o4, h1, h⟩ := zbd h
      refine wX10_aheadOf_L19 hd h1 (fun y2 e => ?_)
      have h := zcl_ e h
      refine V_goto 9 dX10_aheadOf_55 (by decide) ?_
      exact kc (y2, s.1) (zinj h)
theorem wX10_aheadOf {E : zE} {d : Nat} (hd : 1 ≤ d) {Q : Option zV → zM → Prop} {v1 : Int32} {mm : zM} {o : Int32} (h : fX10_aheadOf v1 mm = some o) (hQ : ∀ r, o = r → Q (some (zI r)) mm) : V E RX10 cX10_aheadOf 5 (some .int) d Q 0 [some (zK 10 0), some (zI v1), none, none, none] [] mm := by
  unfold fX10_aheadOf at h
  refine V_aload_n 1 rfl 0 dX10_aheadOf_0 rfl rfl ?_
  refine V_getr 4 rfl 52 0 dX10_aheadOf_1 fl_X10_56 rfl rfl rfl ?_
  refine V_iload_n 5 rfl 1 dX10_aheadOf_4 rfl rfl ?_
  obtain ⟨hi, h⟩ := zobd h
  refine V_iald 6 rfl dX10_aheadOf_5 rfl hi ?_
  refine V_istore_n 7 rfl 2 (L' := [some (zK 10 0), some (zI v1), some (zI (gi mm 52 0 (zn v1))), none, none]) dX10_aheadOf_6 rfl (by decide) rfl ?_
  refine V_iconst 8 rfl (v := 0) dX10_aheadOf_7 (by decide) ?_
  refine V_istore_n 9 rfl 3 (L' := [some (zK 10 0), some (zI v1), some (zI (gi mm 52 0 (zn v1))), some (zI 0), none]) dX10_aheadOf_8 rfl (by decide) rfl ?_
  obtain ⟨o7, h1, h⟩ := zbd h
  refine V_w (zsub_s (zsub_n (zsub_s (zsub_s (zsub_s zsub_0))))) (wX10_aheadOf_L9 hd h1 (fun y5 e => ?_))
  have h := zcl_ e h
  refine V_iload_n 59 rfl 2 dX10_aheadOf_58 rfl rfl ?_
  exact V_iret dX10_aheadOf_59 rfl (hQ y5 (zinj h))
theorem ctX10_aheadOf {E : zE} {d : Nat} (hd : 1 ≤ d) {v1 : Int32} {mm : zM} {o : Int32} (h : fX10_aheadOf v1 mm = some o) : zOC E yX10_aheadOf cX10_aheadOf 5 (some .int) d [zK 10 0, zI v1] mm (some (zI o)) mm :=
  zCT_of (by decide) (Nat.le_of_ble_eq_true rfl) (zk_k (zk_i zk_0)) rfl (wX10_aheadOf hd h (fun r e => ⟨by rw [e], rfl⟩))
def fX10_place_J105 (v2 : Int32) (v3 : Int32) (v4 : Int32) (v6 : Int32) (s0 : Int32) (s1 : Int32) (mm : zM) : Option ((Int32 × Int32) ⊕ (Int32 ⊕ Empty)) :=
  (fX10_truth s0 mm).bind (fun x11 => some (.inl ((s1 - x11), (v6 + 1))))
def fX10_place_J104 (v2 : Int32) (v3 : Int32) (v4 : Int32) (v6 : Int32) (s0 : Int32) (mm : zM) : Option ((Int32 × Int32) ⊕ (Int32 ⊕ Empty)) :=
  fX10_place_J105 v2 v3 v4 v6 0 s0 mm
def fX10_place_L69 (v2 : Int32) (v3 : Int32) (v4 : Int32) (mm : zM) (s : (Int32 × Int32)) : Option ((Int32 × Int32) ⊕ (Int32 ⊕ Empty)) :=
  if 12 ≤ s.2 then (some (.inr (.inl s.1))) else ((fX10_has v3 s.2 mm).bind (fun x10 => if x10 = 0 then (fX10_place_J104 v2 v3 v4 s.2 s.1 mm) else ((fX10_aheadOf s.2 mm).bind (fun x12 => (fX10_has x12 v2 mm).bind (fun x13 => if x13 = 0 then (fX10_place_J104 v2 v3 v4 s.2 s.1 mm) else (fX10_place_J105 v2 v3 v4 s.2 1 s.1 mm))))))
def fX10_place_L124 (v5 : Int32) (mm : zM) (s : (Int32 × Int32)) : Option ((Int32 × Int32) ⊕ (Int32 ⊕ Empty)) :=
  if v5 < s.2 then (some (.inr (.inl s.1))) else (some (.inl ((s.1 ||| ((1 <<< (s.2 &&& 31)))), (s.2 + 1))))
def fX10_place (v1 : Int32) (v2 : Int32) (mm : zM) : Option (Int32 × zM) :=
  (fX10_isType v1 mm).bind (fun x1 => if x1 = 0 then (some (((-1), mm))) else ((fX10_isType v2 mm).bind (fun x2 => if x2 = 0 then (some (((-1), mm))) else ((fX10_overSet v1 mm).bind (fun x3 => (fX10_has x3 v2 mm).bind (fun x4 => if x4 = 0 then (some (((-1), mm))) else ((fX10_overSet v1 mm).bind (fun x5 => (fX10_countsWays x5 mm).bind (fun x6 => if (lg_cmp x6.1 0) = 0 then (some ((0, x6.2))) else ((fX10_aheadOf v2 x6.2).bind (fun x7 => (fJ6_bitCount x7 x6.2).bind (fun x8 => (fJ6_bitCount x5 x6.2).bind (fun x9 => (zloop (fX10_place_L69 v2 x5 x8 x6.2) zF ((x9 - 1), 0)).bind (fun o19 => zcase o19 (fun y14 => (zloop (fX10_place_L124 y14 x6.2) zF (0, x8)).bind (fun o18 => zcase o18 (fun y16 => some ((y16, x6.2))) (fun r17 => r17.elim))) (fun r15 => r15.elim)))))))))))))))
theorem wX10_place_J105 {E : zE} {d : Nat} (hd : 3 ≤ d) {Q : Option zV → zM → Prop} {v2 : Int32} {v3 : Int32} {v4 : Int32} {v6 : Int32} {s0 : Int32} {s1 : Int32} {mm : zM} {o : ((Int32 × Int32) ⊕ (Int32 ⊕ Empty))} (h : fX10_place_J105 v2 v3 v4 v6 s0 s1 mm = some o) (kc : ∀ s' : (Int32 × Int32), o = .inl s' → V E RX10 cX10_place 8 (some .int) d Q 69 [some (zK 10 0), none, some (zI v2), some (zI v3), some (zI v4), some (zI s'.1), some (zI s'.2), none] [] mm) (ke : ∀ y : Int32, o = .inr (.inl y) → V E RX10 cX10_place 8 (some .int) d Q 117 [none, none, none, none, some (zI v4), some (zI y), none, none] [] mm) : V E RX10 cX10_place 8 (some .int) d Q 105 [some (zK 10 0), none, some (zI v2), some (zI v3), some (zI v4), none, some (zI v6), none] [zI s0, zI s1] mm := by
  unfold fX10_place_J105 at h
  obtain ⟨x11, h1, h⟩ := zbd h
  refine V_cS 108 rfl 0 [zI s0] [zI s1] dX10_place_105 cs_X10_104 (ctX10_truth (Nat.le_refl 0) h1) (Nat.le_trans (by decide) hd) rfl rfl (Nat.le_of_ble_eq_true rfl) zoki rfl ?_
  refine V_isub 109 rfl dX10_place_108 ?_
  refine V_istore 111 rfl (L' := [some (zK 10 0), none, some (zI v2), some (zI v3), some (zI v4), some (zI (s1 - x11)), some (zI v6), none]) dX10_place_109 (by decide) rfl ?_
  refine V_iinc 114 rfl (v6 + 1) (L' := [some (zK 10 0), none, some (zI v2), some (zI v3), some (zI v4), some (zI (s1 - x11)), some (zI (v6 + 1)), none]) dX10_place_111 rfl rfl (by decide) rfl ?_
  refine V_goto 69 dX10_place_114 (by decide) ?_
  exact kc ((s1 - x11), (v6 + 1)) (zinj h)
theorem wX10_place_J104 {E : zE} {d : Nat} (hd : 3 ≤ d) {Q : Option zV → zM → Prop} {v2 : Int32} {v3 : Int32} {v4 : Int32} {v6 : Int32} {s0 : Int32} {mm : zM} {o : ((Int32 × Int32) ⊕ (Int32 ⊕ Empty))} (h : fX10_place_J104 v2 v3 v4 v6 s0 mm = some o) (kc : ∀ s' : (Int32 × Int32), o = .inl s' → V E RX10 cX10_place 8 (some .int) d Q 69 [some (zK 10 0), none, some (zI v2), some (zI v3), some (zI v4), some (zI s'.1), some (zI s'.2), none] [] mm) (ke : ∀ y : Int32, o = .inr (.inl y) → V E RX10 cX10_place 8 (some .int) d Q 117 [none, none, none, none, some (zI v4), some (zI y), none, none] [] mm) : V E RX10 cX10_place 8 (some .int) d Q 104 [some (zK 10 0), none, some (zI v2), some (zI v3), some (zI v4), none, some (zI v6), none] [zI s0] mm := by
  unfold fX10_place_J104 at h
  refine V_iconst 105 rfl (v := 0) dX10_place_104 (by decide) ?_
  exact wX10_place_J105 hd h kc ke
theorem wX10_place_L69 {E : zE} {d : Nat} (hd : 3 ≤ d) {Q : Option zV → zM → Prop} {v2 : Int32} {v3 : Int32} {v4 : Int32} {mm : zM} {n : Nat} {s : (Int32 × Int32)} {o : Int32 ⊕ Empty} (h : zloop (fX10_place_L69 v2 v3 v4 mm) n s = some o) (he : ∀ y : Int32, o = .inl y → V E RX10 cX10_place 8 (some .int) d Q 117 [none, none, none, none, some (zI v4), some (zI y), none, none] [] mm) : V E RX10 cX10_place 8 (some .int) d Q 69 [some (zK 10 0), none, some (zI v2), some (zI v3), some (zI v4), some (zI s.1), some (zI s.2), none] [] mm := by
  induction n generalizing s with
  | zero => exact (zloop_0 h).elim
  | succ n ih =>
    obtain ⟨o1, h1, hc1, he1⟩ := zloop_s h
    have kc : ∀ s' : (Int32 × Int32), o1 = .inl s' → V E RX10 cX10_place 8 (some .int) d Q 69 [some (zK 10 0), none, some (zI v2), some (zI v3), some (zI v4), some (zI s'.1), some (zI s'.2), none] [] mm := fun s' e => ih (hc1 s' e)
    have ke : ∀ y : Int32, o1 = .inr (.inl y) → V E RX10 cX10_place 8 (some .int) d Q 117 [none, none, none, none, some (zI v4), some (zI y), none, none] [] mm := fun y e => he y (he1 _ e)
    clear h hc1 he1 ih
    have h := h1
    clear h1
    unfold fX10_place_L69 at h
    refine V_iload 71 rfl dX10_place_69 rfl ?_
    refine V_bipush 73 rfl (v := 12) dX10_place_71 (by decide) ?_
    refine V_icmp_ge 76 117 rfl dX10_place_73 (by decide) (fun c => ?_) (fun c => ?_)
    · have h := zpos c h
      exact V_w (zsub_n (zsub_s (zsub_n (zsub_n (zsub_s (zsub_s (zsub_n (zsub_s zsub_0)))))))) (ke s.1 (zinj h))
    · have h := zneg c h
      refine V_iload 78 rfl dX10_place_76 rfl ?_
      refine V_iload_n 79 rfl 3 dX10_place_78 rfl rfl ?_
      refine V_iload 81 rfl dX10_place_79 rfl ?_
      obtain ⟨x10, h1, h⟩ := zbd h
      refine V_cS 84 rfl 0 [zI v3, zI s.2] [zI s.1] dX10_place_81 cs_X10_133 (ctX10_has (Nat.le_refl 0) h1) (Nat.le_trans (by decide) hd) rfl rfl (Nat.le_of_ble_eq_true rfl) zoki rfl ?_
      refine V_if_eq 87 104 rfl dX10_place_84 (by decide) (fun c => ?_) (fun c => ?_)
      · have h := zpos c h
        exact V_w (zsub_s (zsub_s (zsub_s (zsub_s (zsub_s (zsub_n (zsub_s (zsub_s zsub_0)))))))) (wX10_place_J104 hd h kc ke)
      · have h := zneg c h
        refine V_aload_n 88 rfl 0 dX10_place_87 rfl rfl ?_
        refine V_iload 90 rfl dX10_place_88 rfl ?_
        obtain ⟨x12, h1, h⟩ := zbd h
        refine V_cV 93 rfl 1 [zI s.2] [zI s.1] dX10_place_90 cv_X10_303 (ctX10_aheadOf (Nat.le_refl 1) h1) (Nat.le_trans (by decide) hd) rfl rfl (Nat.le_of_ble_eq_true rfl) zoki rfl ?_
        refine V_iload_n 94 rfl 2 dX10_place_93 rfl rfl ?_
        obtain ⟨x13, h1, h⟩ := zbd h
        refine V_cS 97 rfl 0 [zI x12, zI v2] [zI s.1] dX10_place_94 cs_X10_133 (ctX10_has (Nat.le_refl 0) h1) (Nat.le_trans (by decide) hd) rfl rfl (Nat.le_of_ble_eq_true rfl) zoki rfl ?_
        refine V_if_eq 100 104 rfl dX10_place_97 (by decide) (fun c => ?_) (fun c => ?_)
        · have h := zpos c h
          exact V_w (zsub_s (zsub_s (zsub_s (zsub_s (zsub_s (zsub_n (zsub_s (zsub_s zsub_0)))))))) (wX10_place_J104 hd h kc ke)
        · have h := zneg c h
          refine V_iconst 101 rfl (v := 1) dX10_place_100 (by decide) ?_
          refine V_goto 105 dX10_place_101 (by decide) ?_
          exact V_w (zsub_s (zsub_s (zsub_s (zsub_s (zsub_s (zsub_n (zsub_s (zsub_s zsub_0)))))))) (wX10_place_J105 hd h kc ke)
theorem wX10_place_L124 {E : zE} {d : Nat} (hd : 3 ≤ d) {Q : Option zV → zM → Prop} {v5 : Int32} {mm : zM} {n : Nat} {s : (Int32 × Int32)} {o : Int32 ⊕ Empty} (h : zloop (fX10_place_L124 v5 mm) n s = some o) (he : ∀ y : Int32, o = .inl y → V E RX10 cX10_place 8 (some .int) d Q 146 [none, none, none, none, none, none, some (zI y), none] [] mm) : V E RX10 cX10_place 8 (some .int) d Q 124 [none, none, none, none, none, some (zI v5), some (zI s.1), some (zI s.2)] [] mm := by
  induction n generalizing s with
  | zero => exact (zloop_0 h).elim
  | succ n ih =>
    obtain ⟨o1, h1, hc1, he1⟩ := zloop_s h
    have kc : ∀ s' : (Int32 × Int32), o1 = .inl s' → V E RX10 cX10_place 8 (some .int) d Q 124 [none, none, none, none, none, some (zI v5), some (zI s'.1), some (zI s'.2)] [] mm := fun s' e => ih (hc1 s' e)
    have ke : ∀ y : Int32, o1 = .inr (.inl y) → V E RX10 cX10_place 8 (some .int) d Q 146 [none, none, none, none, none, none, some (zI y), none] [] mm := fun y e => he y (he1 _ e)
    clear h hc1 he1 ih
    have h := h1
    clear h1
    unfold fX10_place_L124 at h
    refine V_iload 126 rfl dX10_place_124 rfl ?_
    refine V_iload 128 rfl dX10_place_126 rfl ?_
    refine V_icmp_gt 131 146 rfl dX10_place_128 (by decide) (fun c => ?_) (fun c => ?_)
    · have h := zpos c h
      exact V_w (zsub_s (zsub_s (zsub_s (zsub_s (zsub_s (zsub_n (zsub_s (zsub_n zsub_0)))))))) (ke s.1 (zinj h))
    · have h := zneg c h
      refine V_iload 133 rfl dX10_place_131 rfl ?_
      refine V_iconst 134 rfl (v := 1) dX10_place_133 (by decide) ?_
      refine V_iload 136 rfl dX10_place_134 rfl ?_
      refine V_ishl 137 rfl dX10_place_136 ?_
      refine V_ior 138 rfl dX10_place_137 ?_
      refine V_istore 140 rfl (L' := [none, none, none, none, none, some (zI v5), some (zI (s.1 ||| ((1 <<< (s.2 &&& 31))))), some (zI s.2)]) dX10_place_138 (by decide) rfl ?_
      refine V_iinc 143 rfl (s.2 + 1) (L' := [none, none, none, none, none, some (zI v5), some (zI (s.1 ||| ((1 <<< (s.2 &&& 31))))), some (zI (s.2 + 1))]) dX10_place_140 rfl rfl (by decide) rfl ?_
      refine V_goto 124 dX10_place_143 (by decide) ?_
      exact kc ((s.1 ||| ((1 <<< (s.2 &&& 31)))), (s.2 + 1)) (zinj h)
theorem wX10_place {E : zE} {d : Nat} (hd : 3 ≤ d) {Q : Option zV → zM → Prop} {v1 : Int32} {v2 : Int32} {mm : zM} {o : (Int32 × zM)} (h : fX10_place v1 v2 mm = some o) (hQ : ∀ r, o = r → Q (some (zI r.1)) r.2) : V E RX10 cX10_place 8 (some .int) d Q 0 [some (zK 10 0), some (zI v1), some (zI v2), none, none, none, none, none] [] mm := by
  unfold fX10_place at h
  refine V_aload_n 1 rfl 0 dX10_place_0 rfl rfl ?_
  refine V_iload_n 2 rfl 1 dX10_place_1 rfl rfl ?_
  obtain ⟨x1, h1, h⟩ := zbd h
  refine V_cV 5 rfl 2 [zI v1] [] dX10_place_2 cv_X10_258 (ctX10_isType (Nat.le_refl 2) h1) (Nat.le_trans (by decide) hd) rfl rfl (Nat.le_of_ble_eq_true rfl) zoki rfl ?_
  refine V_if_eq 8 28 rfl dX10_place_5 (by decide) (fun c => ?_) (fun c => ?_)
  · have h := zpos c h
    refine V_iconst 29 rfl (v := (-1)) dX10_place_28 (by decide) ?_
    exact V_iret dX10_place_29 rfl (hQ (((-1), mm)) (zinj h))
  · have h := zneg c h
    refine V_aload_n 9 rfl 0 dX10_place_8 rfl rfl ?_
    refine V_iload_n 10 rfl 2 dX10_place_9 rfl rfl ?_
    obtain ⟨x2, h1, h⟩ := zbd h
    refine V_cV 13 rfl 2 [zI v2] [] dX10_place_10 cv_X10_258 (ctX10_isType (Nat.le_refl 2) h1) (Nat.le_trans (by decide) hd) rfl rfl (Nat.le_of_ble_eq_true rfl) zoki rfl ?_
    refine V_if_eq 16 28 rfl dX10_place_13 (by decide) (fun c => ?_) (fun c => ?_)
    · have h := zpos c h
      refine V_iconst 29 rfl (v := (-1)) dX10_place_28 (by decide) ?_
      exact V_iret dX10_place_29 rfl (hQ (((-1), mm)) (zinj h))
    · have h := zneg c h
      refine V_aload_n 17 rfl 0 dX10_place_16 rfl rfl ?_
      refine V_iload_n 18 rfl 1 dX10_place_17 rfl rfl ?_
      obtain ⟨x3, h1, h⟩ := zbd h
      refine V_cV 21 rfl 1 [zI v1] [] dX10_place_18 cv_X10_288 (ctX10_overSet (Nat.le_refl 1) h1) (Nat.le_trans (by decide) hd) rfl rfl (Nat.le_of_ble_eq_true rfl) zoki rfl ?_
      refine V_iload_n 22 rfl 2 dX10_place_21 rfl rfl ?_
      obtain ⟨x4, h1, h⟩ := zbd h
      refine V_cS 25 rfl 0 [zI x3, zI v2] [] dX10_place_22 cs_X10_133 (ctX10_has (Nat.le_refl 0) h1) (Nat.le_trans (by decide) hd) rfl rfl (Nat.le_of_ble_eq_true rfl) zoki rfl ?_
      refine V_if_ne 28 30 rfl dX10_place_25 (by decide) (fun c => ?_) (fun c => ?_)
      · have h := zneg c h
        refine V_aload_n 31 rfl 0 dX10_place_30 rfl rfl ?_
        refine V_iload_n 32 rfl 1 dX10_place_31 rfl rfl ?_
        obtain ⟨x5, h1, h⟩ := zbd h
        refine V_cV 35 rfl 1 [zI v1] [] dX10_place_32 cv_X10_288 (ctX10_overSet (Nat.le_refl 1) h1) (Nat.le_trans (by decide) hd) rfl rfl (Nat.le_of_ble_eq_true rfl) zoki rfl ?_
        refine V_istore_n 36 rfl 3 (L' := [some (zK 10 0), some (zI v1), some (zI v2), some (zI x5), none, none, none, none]) dX10_place_35 rfl (by decide) rfl ?_
        refine V_aload_n 37 rfl 0 dX10_place_36 rfl rfl ?_
        refine V_iload_n 38 rfl 3 dX10_place_37 rfl rfl ?_
        obtain ⟨x6, h1, h⟩ := zbd h
        refine V_cV 41 rfl 2 [zI x5] [] dX10_place_38 cv_X10_294 (ctX10_countsWays (Nat.le_refl 2) h1) (Nat.le_trans (by decide) hd) rfl rfl (Nat.le_of_ble_eq_true rfl) zokj rfl ?_
        refine V_lconst 42 rfl (v := 0) dX10_place_41 (by decide) ?_
        refine V_lcmp 43 rfl dX10_place_42 ?_
        refine V_if_ne 46 48 rfl dX10_place_43 (by decide) (fun c => ?_) (fun c => ?_)
        · have h := zneg c h
          refine V_aload_n 49 rfl 0 dX10_place_48 rfl rfl ?_
          refine V_iload_n 50 rfl 2 dX10_place_49 rfl rfl ?_
          obtain ⟨x7, h1, h⟩ := zbd h
          refine V_cV 53 rfl 1 [zI v2] [] dX10_place_50 cv_X10_303 (ctX10_aheadOf (Nat.le_refl 1) h1) (Nat.le_trans (by decide) hd) rfl rfl (Nat.le_of_ble_eq_true rfl) zoki rfl ?_
          obtain ⟨x8, h1, h⟩ := zbd h
          refine V_cS 56 rfl 0 [zI x7] [] dX10_place_53 cs_X10_300 (ctJ6_bitCount (Nat.le_refl 0) h1) (Nat.le_trans (by decide) hd) rfl rfl (Nat.le_of_ble_eq_true rfl) zoki rfl ?_
          refine V_istore 58 rfl (L' := [some (zK 10 0), some (zI v1), some (zI v2), some (zI x5), some (zI x8), none, none, none]) dX10_place_56 (by decide) rfl ?_
          refine V_iload_n 59 rfl 3 dX10_place_58 rfl rfl ?_
          obtain ⟨x9, h1, h⟩ := zbd h
          refine V_cS 62 rfl 0 [zI x5] [] dX10_place_59 cs_X10_300 (ctJ6_bitCount (Nat.le_refl 0) h1) (Nat.le_trans (by decide) hd) rfl rfl (Nat.le_of_ble_eq_true rfl) zoki rfl ?_
          refine V_iconst 63 rfl (v := 1) dX10_place_62 (by decide) ?_
          refine V_isub 64 rfl dX10_place_63 ?_
          refine V_istore 66 rfl (L' := [some (zK 10 0), some (zI v1), some (zI v2), some (zI x5), some (zI x8), some (zI (x9 - 1)), none, none]) dX10_place_64 (by decide) rfl ?_
          refine V_iconst 67 rfl (v := 0) dX10_place_66 (by decide) ?_
          refine V_istore 69 rfl (L' := [some (zK 10 0), some (zI v1), some (zI v2), some (zI x5), some (zI x8), some (zI (x9 - 1)), some (zI 0), none]) dX10_place_67 (by decide) rfl ?_
          obtain ⟨o19, h1, h⟩ := zbd h
          refine V_w (zsub_s (zsub_n (zsub_s (zsub_s (zsub_s (zsub_s (zsub_s (zsub_s zsub_0)))))))) (wX10_place_L69 hd h1 (fun y14 e => ?_))
          have h := zcl_ e h
          refine V_iconst 118 rfl (v := 0) dX10_place_117 (by decide) ?_
          refine V_istore 120 rfl (L' := [none, none, none, none, some (zI x8), some (zI y14), some (zI 0), none]) dX10_place_118 (by decide) rfl ?_
          refine V_iload 122 rfl dX10_place_120 rfl ?_
          refine V_istore 124 rfl (L' := [none, none, none, none, some (zI x8), some (zI y14), some (zI 0), some (zI x8)]) dX10_place_122 (by decide) rfl ?_
          obtain ⟨o18, h1, h⟩ := zbd h
          refine V_w (zsub_s (zsub_s (zsub_s (zsub_s (zsub_n (zsub_s (zsub_s (zsub_s zsub_0)))))))) (wX10_place_L124 hd h1 (fun y16 e => ?_))
          have h := zcl_ e h
          refine V_iload 148 rfl dX10_place_146 rfl ?_
          exact V_iret dX10_place_148 rfl (hQ ((y16, x6.2)) (zinj h))
        · have h := zpos c h
          refine V_iconst 47 rfl (v := 0) dX10_place_46 (by decide) ?_
          exact V_iret dX10_place_47 rfl (hQ ((0, x6.2)) (zinj h))
      · have h := zpos c h
        refine V_iconst 29 rfl (v := (-1)) dX10_place_28 (by decide) ?_
        exact V_iret dX10_place_29 rfl (hQ (((-1), mm)) (zinj h))
theorem ctX10_place {E : zE} {d : Nat} (hd : 3 ≤ d) {v1 : Int32} {v2 : Int32} {mm : zM} {o : (Int32 × zM)} (h : fX10_place v1 v2 mm = some o) : zOC E yX10_place cX10_place 8 (some .int) d [zK 10 0, zI v1, zI v2] mm (some (zI o.1)) o.2 :=
  zCT_of (by decide) (Nat.le_of_ble_eq_true rfl) (zk_k (zk_i (zk_i zk_0))) rfl (wX10_place hd h (fun r e => ⟨by rw [e], by rw [e]⟩))
def fX10_ends (v1 : Int32) (v2 : Int32) (mm : zM) : Option zM :=
  some ((wi ((wi mm 10 0 23 v1)) 10 0 27 v2))
theorem wX10_ends {E : zE} {d : Nat} (hd : 0 ≤ d) {Q : Option zV → zM → Prop} {v1 : Int32} {v2 : Int32} {mm : zM} {o : zM} (h : fX10_ends v1 v2 mm = some o) (hQ : ∀ r, o = r → Q none r) : V E RX10 cX10_ends 3 none d Q 0 [some (zK 10 0), some (zI v1), some (zI v2)] [] mm := by
  unfold fX10_ends at h
  refine V_aload_n 1 rfl 0 dX10_ends_0 rfl rfl ?_
  refine V_iload_n 2 rfl 1 dX10_ends_1 rfl rfl ?_
  refine V_puti 5 rfl dX10_ends_2 fw_X10_306 rfl rfl rfl ?_
  refine V_aload_n 6 rfl 0 dX10_ends_5 rfl rfl ?_
  refine V_iload_n 7 rfl 2 dX10_ends_6 rfl rfl ?_
  refine V_puti 10 rfl dX10_ends_7 fw_X10_309 rfl rfl rfl ?_
  exact V_vret dX10_ends_10 rfl (hQ ((wi ((wi mm 10 0 23 v1)) 10 0 27 v2)) (zinj h))
theorem ctX10_ends {E : zE} {d : Nat} (hd : 0 ≤ d) {v1 : Int32} {v2 : Int32} {mm : zM} {o : zM} (h : fX10_ends v1 v2 mm = some o) : zOC E yX10_ends cX10_ends 3 none d [zK 10 0, zI v1, zI v2] mm none o :=
  zCT_of (by decide) (Nat.le_of_ble_eq_true rfl) (zk_k (zk_i (zk_i zk_0))) rfl (wX10_ends hd h (fun r e => ⟨rfl, by rw [e]⟩))
def fX10_works_L78 (rc : Int32 → Int32 → Int32 → zM → Option (Int32 × zM)) (v2 : Int32) (v3 : Int32) (v4 : Int32) (v6 : Int32) (s : (Int32 × Int32 × zM)) : Option ((Int32 × Int32 × zM) ⊕ ((Int32 × zM) ⊕ Empty)) :=
  zob (zin ((v6 + 1)) 1357) (if (gi s.2.2 38 0 (zn ((v6 + 1)))) ≤ s.2.1 then (some (.inr (.inl (s.1, s.2.2)))) else (if (gi s.2.2 10 0 23) = 0 then (zob (zin ((((v6 + 2)) + s.2.1)) 1357) (if 1000 ≤ (gi s.2.2 38 0 (zn ((((v6 + 2)) + s.2.1)))) then (if (gi s.2.2 38 0 (zn ((((v6 + 2)) + s.2.1)))) = 1000 then ((rc v2 ((v3 + 1)) ((v4 + 1)) s.2.2).bind (fun x6 => some (.inl ((s.1 + x6.1), (s.2.1 + 1), x6.2)))) else ((rc ((((gi s.2.2 38 0 (zn ((((v6 + 2)) + s.2.1))))) - 1001)) 0 ((v4 + 1)) s.2.2).bind (fun x5 => some (.inl ((s.1 + x5.1), (s.2.1 + 1), x5.2))))) else (some (.inl ((s.1 + ((gi s.2.2 38 0 (zn ((((v6 + 2)) + s.2.1)))))), (s.2.1 + 1), s.2.2))))) else (some (.inr (.inl (s.1, s.2.2))))))
def fX10_works_J17 (rc : Int32 → Int32 → Int32 → zM → Option (Int32 × zM)) (v1 : Int32) (v2 : Int32) (v3 : Int32) (v4 : Int32) (s0 : Int32) (mm : zM) : Option (Int32 × zM) :=
  (fX10_flatAt v1 v2 ((wi mm 10 0 26 s0))).bind (fun x1 => zob (zin ((x1 + 1)) 1560) ((fX10_flatAt v1 v2 ((wi mm 10 0 26 s0))).bind (fun x2 => zob (zin ((x2 + 2)) 1560) ((fX10_ownOf ((gi ((wi mm 10 0 26 s0)) 44 0 (zn ((x1 + 1))))) ((gi ((wi mm 10 0 26 s0)) 44 0 (zn ((x2 + 2))))) ((wi mm 10 0 26 s0))).bind (fun x3 => (fX10_ownAt ((gi ((wi mm 10 0 26 s0)) 44 0 (zn ((x1 + 1))))) x3 ((wi mm 10 0 26 s0))).bind (fun x4 => (zloop (fX10_works_L78 rc v2 v3 v4 x4) zF (0, 0, (wi ((wi mm 10 0 26 s0)) 10 0 28 ((((gi ((wi mm 10 0 26 s0)) 10 0 28)) ||| ((1 <<< (((gi ((wi mm 10 0 26 s0)) 44 0 (zn ((x1 + 1))))) &&& 31)))))))).bind (fun o9 => zcase o9 (fun y7 => some ((y7.1, y7.2))) (fun r8 => r8.elim))))))))
def fX10_works (rc : Int32 → Int32 → Int32 → zM → Option (Int32 × zM)) (v1 : Int32) (v2 : Int32) (v3 : Int32) (v4 : Int32) (mm : zM) : Option (Int32 × zM) :=
  if (gi mm 10 0 26) = (-1) then (fX10_works_J17 rc v1 v2 v3 v4 v1 mm) else (fX10_works_J17 rc v1 v2 v3 v4 ((gi mm 10 0 26)) mm)
theorem wX10_works_L78 {E : zE} {d : Nat} (hd : 2 ≤ d) {rc : Int32 → Int32 → Int32 → zM → Option (Int32 × zM)} {dr : Nat} (hrc : ∀ (a0 a1 a2 : Int32) (mm : zM) (o : Int32 × zM), rc a0 a1 a2 mm = some o → zOC E yX10_calls cX10_calls 8 (some .int) dr [zK 10 0, zI a0, zI a1, zI a2] mm (some (zI o.1)) o.2) (hdr : dr + 1 ≤ d) {Q : Option zV → zM → Prop} {v2 : Int32} {v3 : Int32} {v4 : Int32} {v6 : Int32} {n : Nat} {s : (Int32 × Int32 × zM)} {o : (Int32 × zM) ⊕ Empty} (h : zloop (fX10_works_L78 rc v2 v3 v4 v6) n s = some o) (he : ∀ y : (Int32 × zM), o = .inl y → V E RX10 cX10_works 10 (some .int) d Q 180 [none, none, none, none, none, none, none, some (zI y.1), none, none] [] y.2) : V E RX10 cX10_works 10 (some .int) d Q 78 [some (zK 10 0), none, some (zI v2), some (zI v3), some (zI v4), none, some (zI v6), some (zI s.1), some (zI s.2.1), none] [] s.2.2 := by
  induction n generalizing s with
  | zero => exact (zloop_0 h).elim
  | succ n ih =>
    obtain ⟨o1, h1, hc1, he1⟩ := zloop_s h
    have kc : ∀ s' : (Int32 × Int32 × zM), o1 = .inl s' → V E RX10 cX10_works 10 (some .int) d Q 78 [some (zK 10 0), none, some (zI v2), some (zI v3), some (zI v4), none, some (zI v6), some (zI s'.1), some (zI s'.2.1), none] [] s'.2.2 := fun s' e => ih (hc1 s' e)
    have ke : ∀ y : (Int32 × zM), o1 = .inr (.inl y) → V E RX10 cX10_works 10 (some .int) d Q 180 [none, none, none, none, none, none, none, some (zI y.1), none, none] [] y.2 := fun y e => he y (he1 _ e)
    clear h hc1 he1 ih
    have h := h1
    clear h1
    unfold fX10_works_L78 at h
    refine V_iload 80 rfl dX10_works_78 rfl ?_
    refine V_aload_n 81 rfl 0 dX10_works_80 rfl rfl ?_
    refine V_getr 84 rfl 38 0 dX10_works_81 fl_X10_11 rfl rfl rfl ?_
    refine V_iload 86 rfl dX10_works_84 rfl ?_
    refine V_iconst 87 rfl (v := 1) dX10_works_86 (by decide) ?_
    refine V_iadd 88 rfl dX10_works_87 ?_
    obtain ⟨hi, h⟩ := zobd h
    refine V_iald 89 rfl dX10_works_88 rfl hi ?_
    refine V_icmp_ge 92 180 rfl dX10_works_89 (by decide) (fun c => ?_) (fun c => ?_)
    · have h := zpos c h
      exact V_w (zsub_n (zsub_s (zsub_n (zsub_n (zsub_n (zsub_s (zsub_n (zsub_s (zsub_n (zsub_s zsub_0)))))))))) (ke (s.1, s.2.2) (zinj h))
    · have h := zneg c h
      refine V_aload_n 93 rfl 0 dX10_works_92 rfl rfl ?_
      refine V_geti 96 rfl dX10_works_93 fl_X10_306 rfl ?_
      refine V_if_ne 99 180 rfl dX10_works_96 (by decide) (fun c => ?_) (fun c => ?_)
      · have h := zneg c h
        exact V_w (zsub_n (zsub_s (zsub_n (zsub_n (zsub_n (zsub_s (zsub_n (zsub_s (zsub_n (zsub_s zsub_0)))))))))) (ke (s.1, s.2.2) (zinj h))
      · have h := zpos c h
        refine V_aload_n 100 rfl 0 dX10_works_99 rfl rfl ?_
        refine V_getr 103 rfl 38 0 dX10_works_100 fl_X10_11 rfl rfl rfl ?_
        refine V_iload 105 rfl dX10_works_103 rfl ?_
        refine V_iconst 106 rfl (v := 2) dX10_works_105 (by decide) ?_
        refine V_iadd 107 rfl dX10_works_106 ?_
        refine V_iload 109 rfl dX10_works_107 rfl ?_
        refine V_iadd 110 rfl dX10_works_109 ?_
        obtain ⟨hi, h⟩ := zobd h
        refine V_iald 111 rfl dX10_works_110 rfl hi ?_
        refine V_istore 113 rfl (L' := [some (zK 10 0), none, some (zI v2), some (zI v3), some (zI v4), none, some (zI v6), some (zI s.1), some (zI s.2.1), some (zI (gi s.2.2 38 0 (zn ((((v6 + 2)) + s.2.1)))))]) dX10_works_111 (by decide) rfl ?_
        refine V_iload 115 rfl dX10_works_113 rfl ?_
        refine V_sipush 118 rfl (v := 1000) dX10_works_115 (by decide) ?_
        refine V_icmp_ge 121 131 rfl dX10_works_118 (by decide) (fun c => ?_) (fun c => ?_)
        · have h := zpos c h
          refine V_iload 133 rfl dX10_works_131 rfl ?_
          refine V_iload 135 rfl dX10_works_133 rfl ?_
          refine V_sipush 138 rfl (v := 1000) dX10_works_135 (by decide) ?_
          refine V_icmp_ne 141 156 rfl dX10_works_138 (by decide) (fun c => ?_) (fun c => ?_)
          · have h := zneg c h
            refine V_aload_n 157 rfl 0 dX10_works_156 rfl rfl ?_
            refine V_iload 159 rfl dX10_works_157 rfl ?_
            refine V_sipush 162 rfl (v := 1001) dX10_works_159 (by decide) ?_
            refine V_isub 163 rfl dX10_works_162 ?_
            refine V_iconst 164 rfl (v := 0) dX10_works_163 (by decide) ?_
            refine V_iload 166 rfl dX10_works_164 rfl ?_
            refine V_iconst 167 rfl (v := 1) dX10_works_166 (by decide) ?_
            refine V_iadd 168 rfl dX10_works_167 ?_
            obtain ⟨x5, h1, h⟩ := zbd h
            refine V_cV 171 rfl dr [zI (((gi s.2.2 38 0 (zn ((((v6 + 2)) + s.2.1))))) - 1001), zI 0, zI (v4 + 1)] [zI s.1] dX10_works_168 cv_X10_336 (hrc _ _ _ _ _ h1) hdr rfl rfl (Nat.le_of_ble_eq_true rfl) zoki rfl ?_
            refine V_iadd 172 rfl dX10_works_171 ?_
            refine V_istore 174 rfl (L' := [some (zK 10 0), none, some (zI v2), some (zI v3), some (zI v4), none, some (zI v6), some (zI (s.1 + x5.1)), some (zI s.2.1), some (zI (gi s.2.2 38 0 (zn ((((v6 + 2)) + s.2.1)))))]) dX10_works_172 (by decide) rfl ?_
            refine V_iinc 177 rfl (s.2.1 + 1) (L' := [some (zK 10 0), none, some (zI v2), some (zI v3), some (zI v4), none, some (zI v6), some (zI (s.1 + x5.1)), some (zI (s.2.1 + 1)), some (zI (gi s.2.2 38 0 (zn ((((v6 + 2)) + s.2.1)))))]) dX10_works_174 rfl rfl (by decide) rfl ?_
            refine V_goto 78 dX10_works_177 (by decide) ?_
            exact V_w (zsub_s (zsub_s (zsub_s (zsub_s (zsub_s (zsub_s (zsub_s (zsub_s (zsub_s (zsub_n zsub_0)))))))))) (kc ((s.1 + x5.1), (s.2.1 + 1), x5.2) (zinj h))
          · have h := zpos c h
            refine V_aload_n 142 rfl 0 dX10_works_141 rfl rfl ?_
            refine V_iload_n 143 rfl 2 dX10_works_142 rfl rfl ?_
            refine V_iload_n 144 rfl 3 dX10_works_143 rfl rfl ?_
            refine V_iconst 145 rfl (v := 1) dX10_works_144 (by decide) ?_
            refine V_iadd 146 rfl dX10_works_145 ?_
            refine V_iload 148 rfl dX10_works_146 rfl ?_
            refine V_iconst 149 rfl (v := 1) dX10_works_148 (by decide) ?_
            refine V_iadd 150 rfl dX10_works_149 ?_
            obtain ⟨x6, h1, h⟩ := zbd h
            refine V_cV 153 rfl dr [zI v2, zI (v3 + 1), zI (v4 + 1)] [zI s.1] dX10_works_150 cv_X10_336 (hrc _ _ _ _ _ h1) hdr rfl rfl (Nat.le_of_ble_eq_true rfl) zoki rfl ?_
            refine V_goto 171 dX10_works_153 (by decide) ?_
            refine V_iadd 172 rfl dX10_works_171 ?_
            refine V_istore 174 rfl (L' := [some (zK 10 0), none, some (zI v2), some (zI v3), some (zI v4), none, some (zI v6), some (zI (s.1 + x6.1)), some (zI s.2.1), some (zI (gi s.2.2 38 0 (zn ((((v6 + 2)) + s.2.1)))))]) dX10_works_172 (by decide) rfl ?_
            refine V_iinc 177 rfl (s.2.1 + 1) (L' := [some (zK 10 0), none, some (zI v2), some (zI v3), some (zI v4), none, some (zI v6), some (zI (s.1 + x6.1)), some (zI (s.2.1 + 1)), some (zI (gi s.2.2 38 0 (zn ((((v6 + 2)) + s.2.1)))))]) dX10_works_174 rfl rfl (by decide) rfl ?_
            refine V_goto 78 dX10_works_177 (by decide) ?_
            exact V_w (zsub_s (zsub_s (zsub_s (zsub_s (zsub_s (zsub_s (zsub_s (zsub_s (zsub_s (zsub_n zsub_0)))))))))) (kc ((s.1 + x6.1), (s.2.1 + 1), x6.2) (zinj h))
        · have h := zneg c h
          refine V_iload 123 rfl dX10_works_121 rfl ?_
          refine V_iload 125 rfl dX10_works_123 rfl ?_
          refine V_iadd 126 rfl dX10_works_125 ?_
          refine V_istore 128 rfl (L' := [some (zK 10 0), none, some (zI v2), some (zI v3), some (zI v4), none, some (zI v6), some (zI (s.1 + ((gi s.2.2 38 0 (zn ((((v6 + 2)) + s.2.1))))))), some (zI s.2.1), some (zI (gi s.2.2 38 0 (zn ((((v6 + 2)) + s.2.1)))))]) dX10_works_126 (by decide) rfl ?_
          refine V_goto 174 dX10_works_128 (by decide) ?_
          refine V_iinc 177 rfl (s.2.1 + 1) (L' := [some (zK 10 0), none, some (zI v2), some (zI v3), some (zI v4), none, some (zI v6), some (zI (s.1 + ((gi s.2.2 38 0 (zn ((((v6 + 2)) + s.2.1))))))), some (zI (s.2.1 + 1)), some (zI (gi s.2.2 38 0 (zn ((((v6 + 2)) + s.2.1)))))]) dX10_works_174 rfl rfl (by decide) rfl ?_
          refine V_goto 78 dX10_works_177 (by decide) ?_
          exact V_w (zsub_s (zsub_s (zsub_s (zsub_s (zsub_s (zsub_s (zsub_s (zsub_s (zsub_s (zsub_n zsub_0)))))))))) (kc ((s.1 + ((gi s.2.2 38 0 (zn ((((v6 + 2)) + s.2.1)))))), (s.2.1 + 1), s.2.2) (zinj h))
theorem wX10_works_J17 {E : zE} {d : Nat} (hd : 2 ≤ d) {rc : Int32 → Int32 → Int32 → zM → Option (Int32 × zM)} {dr : Nat} (hrc : ∀ (a0 a1 a2 : Int32) (mm : zM) (o : Int32 × zM), rc a0 a1 a2 mm = some o → zOC E yX10_calls cX10_calls 8 (some .int) dr [zK 10 0, zI a0, zI a1, zI a2] mm (some (zI o.1)) o.2) (hdr : dr + 1 ≤ d) {Q : Option zV → zM → Prop} {v1 : Int32} {v2 : Int32} {v3 : Int32} {v4 : Int32} {s0 : Int32} {mm : zM} {o : (Int32 × zM)} (h : fX10_works_J17 rc v1 v2 v3 v4 s0 mm = some o) (hQ : ∀ r, o = r → Q (some (zI r.1)) r.2) : V E RX10 cX10_works 10 (some .int) d Q 17 [some (zK 10 0), some (zI v1), some (zI v2), some (zI v3), some (zI v4), none, none, none, none, none] [zI s0, zK 10 0] mm := by
  unfold fX10_works_J17 at h
  refine V_puti 20 rfl dX10_works_17 fw_X10_330 rfl rfl rfl ?_
  refine V_aload_n 21 rfl 0 dX10_works_20 rfl rfl ?_
  refine V_getr 24 rfl 44 0 dX10_works_21 fl_X10_32 rfl rfl rfl ?_
  refine V_iload_n 25 rfl 1 dX10_works_24 rfl rfl ?_
  refine V_iload_n 26 rfl 2 dX10_works_25 rfl rfl ?_
  obtain ⟨x1, h1, h⟩ := zbd h
  refine V_cS 29 rfl 0 [zI v1, zI v2] [zK 44 0] dX10_works_26 cs_X10_216 (ctX10_flatAt (Nat.le_refl 0) h1) (Nat.le_trans (by decide) hd) rfl rfl (Nat.le_of_ble_eq_true rfl) zoki rfl ?_
  refine V_iconst 30 rfl (v := 1) dX10_works_29 (by decide) ?_
  refine V_iadd 31 rfl dX10_works_30 ?_
  obtain ⟨hi, h⟩ := zobd h
  refine V_iald 32 rfl dX10_works_31 rfl hi ?_
  refine V_istore 34 rfl (L' := [some (zK 10 0), some (zI v1), some (zI v2), some (zI v3), some (zI v4), some (zI (gi ((wi mm 10 0 26 s0)) 44 0 (zn ((x1 + 1))))), none, none, none, none]) dX10_works_32 (by decide) rfl ?_
  refine V_iload 36 rfl dX10_works_34 rfl ?_
  refine V_aload_n 37 rfl 0 dX10_works_36 rfl rfl ?_
  refine V_iload 39 rfl dX10_works_37 rfl ?_
  refine V_aload_n 40 rfl 0 dX10_works_39 rfl rfl ?_
  refine V_getr 43 rfl 44 0 dX10_works_40 fl_X10_32 rfl rfl rfl ?_
  refine V_iload_n 44 rfl 1 dX10_works_43 rfl rfl ?_
  refine V_iload_n 45 rfl 2 dX10_works_44 rfl rfl ?_
  obtain ⟨x2, h1, h⟩ := zbd h
  refine V_cS 48 rfl 0 [zI v1, zI v2] [zK 44 0, zI (gi ((wi mm 10 0 26 s0)) 44 0 (zn ((x1 + 1)))), zK 10 0, zI (gi ((wi mm 10 0 26 s0)) 44 0 (zn ((x1 + 1))))] dX10_works_45 cs_X10_216 (ctX10_flatAt (Nat.le_refl 0) h1) (Nat.le_trans (by decide) hd) rfl rfl (Nat.le_of_ble_eq_true rfl) zoki rfl ?_
  refine V_iconst 49 rfl (v := 2) dX10_works_48 (by decide) ?_
  refine V_iadd 50 rfl dX10_works_49 ?_
  obtain ⟨hi, h⟩ := zobd h
  refine V_iald 51 rfl dX10_works_50 rfl hi ?_
  obtain ⟨x3, h1, h⟩ := zbd h
  refine V_cV 54 rfl 1 [zI (gi ((wi mm 10 0 26 s0)) 44 0 (zn ((x1 + 1)))), zI (gi ((wi mm 10 0 26 s0)) 44 0 (zn ((x2 + 2))))] [zI (gi ((wi mm 10 0 26 s0)) 44 0 (zn ((x1 + 1))))] dX10_works_51 cv_X10_267 (ctX10_ownOf (Nat.le_refl 1) h1) (Nat.le_trans (by decide) hd) rfl rfl (Nat.le_of_ble_eq_true rfl) zoki rfl ?_
  obtain ⟨x4, h1, h⟩ := zbd h
  refine V_cS 57 rfl 0 [zI (gi ((wi mm 10 0 26 s0)) 44 0 (zn ((x1 + 1)))), zI x3] [] dX10_works_54 cs_X10_168 (ctX10_ownAt (Nat.le_refl 0) h1) (Nat.le_trans (by decide) hd) rfl rfl (Nat.le_of_ble_eq_true rfl) zoki rfl ?_
  refine V_istore 59 rfl (L' := [some (zK 10 0), some (zI v1), some (zI v2), some (zI v3), some (zI v4), some (zI (gi ((wi mm 10 0 26 s0)) 44 0 (zn ((x1 + 1))))), some (zI x4), none, none, none]) dX10_works_57 (by decide) rfl ?_
  refine V_aload_n 60 rfl 0 dX10_works_59 rfl rfl ?_
  refine V_dup 61 rfl dX10_works_60 rfl ?_
  refine V_geti 64 rfl dX10_works_61 fl_X10_333 rfl ?_
  refine V_iconst 65 rfl (v := 1) dX10_works_64 (by decide) ?_
  refine V_iload 67 rfl dX10_works_65 rfl ?_
  refine V_ishl 68 rfl dX10_works_67 ?_
  refine V_ior 69 rfl dX10_works_68 ?_
  refine V_puti 72 rfl dX10_works_69 fw_X10_333 rfl rfl rfl ?_
  refine V_iconst 73 rfl (v := 0) dX10_works_72 (by decide) ?_
  refine V_istore 75 rfl (L' := [some (zK 10 0), some (zI v1), some (zI v2), some (zI v3), some (zI v4), some (zI (gi ((wi mm 10 0 26 s0)) 44 0 (zn ((x1 + 1))))), some (zI x4), some (zI 0), none, none]) dX10_works_73 (by decide) rfl ?_
  refine V_iconst 76 rfl (v := 0) dX10_works_75 (by decide) ?_
  refine V_istore 78 rfl (L' := [some (zK 10 0), some (zI v1), some (zI v2), some (zI v3), some (zI v4), some (zI (gi ((wi mm 10 0 26 s0)) 44 0 (zn ((x1 + 1))))), some (zI x4), some (zI 0), some (zI 0), none]) dX10_works_76 (by decide) rfl ?_
  obtain ⟨o9, h1, h⟩ := zbd h
  refine V_w (zsub_s (zsub_n (zsub_s (zsub_s (zsub_s (zsub_n (zsub_s (zsub_s (zsub_s (zsub_s zsub_0)))))))))) (wX10_works_L78 hd hrc hdr h1 (fun y7 e => ?_))
  have h := zcl_ e h
  refine V_iload 182 rfl dX10_works_180 rfl ?_
  exact V_iret dX10_works_182 rfl (hQ ((y7.1, y7.2)) (zinj h))
theorem wX10_works {E : zE} {d : Nat} (hd : 2 ≤ d) {rc : Int32 → Int32 → Int32 → zM → Option (Int32 × zM)} {dr : Nat} (hrc : ∀ (a0 a1 a2 : Int32) (mm : zM) (o : Int32 × zM), rc a0 a1 a2 mm = some o → zOC E yX10_calls cX10_calls 8 (some .int) dr [zK 10 0, zI a0, zI a1, zI a2] mm (some (zI o.1)) o.2) (hdr : dr + 1 ≤ d) {Q : Option zV → zM → Prop} {v1 : Int32} {v2 : Int32} {v3 : Int32} {v4 : Int32} {mm : zM} {o : (Int32 × zM)} (h : fX10_works rc v1 v2 v3 v4 mm = some o) (hQ : ∀ r, o = r → Q (some (zI r.1)) r.2) : V E RX10 cX10_works 10 (some .int) d Q 0 [some (zK 10 0), some (zI v1), some (zI v2), some (zI v3), some (zI v4), none, none, none, none, none] [] mm := by
  unfold fX10_works at h
  refine V_aload_n 1 rfl 0 dX10_works_0 rfl rfl ?_
  refine V_aload_n 2 rfl 0 dX10_works_1 rfl rfl ?_
  refine V_geti 5 rfl dX10_works_2 fl_X10_330 rfl ?_
  refine V_iconst 6 rfl (v := (-1)) dX10_works_5 (by decide) ?_
  refine V_icmp_ne 9 13 rfl dX10_works_6 (by decide) (fun c => ?_) (fun c => ?_)
  · have h := zneg c h
    refine V_aload_n 14 rfl 0 dX10_works_13 rfl rfl ?_
    refine V_geti 17 rfl dX10_works_14 fl_X10_330 rfl ?_
    exact wX10_works_J17 hd hrc hdr h hQ
  · have h := zpos c h
    refine V_iload_n 10 rfl 1 dX10_works_9 rfl rfl ?_
    refine V_goto 17 dX10_works_10 (by decide) ?_
    exact wX10_works_J17 hd hrc hdr h hQ
theorem ctX10_works {E : zE} {d : Nat} (hd : 2 ≤ d) {rc : Int32 → Int32 → Int32 → zM → Option (Int32 × zM)} {dr : Nat} (hrc : ∀ (a0 a1 a2 : Int32) (mm : zM) (o : Int32 × zM), rc a0 a1 a2 mm = some o → zOC E yX10_calls cX10_calls 8 (some .int) dr [zK 10 0, zI a0, zI a1, zI a2] mm (some (zI o.1)) o.2) (hdr : dr + 1 ≤ d) {v1 : Int32} {v2 : Int32} {v3 : Int32} {v4 : Int32} {mm : zM} {o : (Int32 × zM)} (h : fX10_works rc v1 v2 v3 v4 mm = some o) : zOC E yX10_works cX10_works 10 (some .int) d [zK 10 0, zI v1, zI v2, zI v3, zI v4] mm (some (zI o.1)) o.2 :=
  zCT_of (by decide) (Nat.le_of_ble_eq_true rfl) (zk_k (zk_i (zk_i (zk_i (zk_i zk_0))))) rfl (wX10_works hd hrc hdr h (fun r e => ⟨by rw [e], by rw [e]⟩))
def fX10_calls_J15 (rc : Int32 → Int32 → Int32 → zM → Option (Int32 × zM)) (v3 : Int32) (mm : zM) : Option (Int32 × zM) :=
  (fX10_ends 5 v3 mm).bind (fun x1 => some ((0, x1)))
def fX10_calls_J107 (rc : Int32 → Int32 → Int32 → zM → Option (Int32 × zM)) (v1 : Int32) (v3 : Int32) (v5 : Int32) (v6 : Int32) (v7 : Int32) (s0 : Int32) (mm : zM) : Option ((Int32 × Int32 × zM) ⊕ ((Int32 × zM) ⊕ (Int32 × zM))) :=
  if v7 = 3 then ((fX10_ends 3 v3 mm).bind (fun x4 => some (.inr (.inr ((0, x4)))))) else (if v7 = 1 then ((fX10_works rc v6 v1 v5 v3 mm).bind (fun x3 => some (.inr (.inr ((x3.1, x3.2)))))) else (some (.inl (s0, (v5 + 1), mm))))
def fX10_calls_J102 (rc : Int32 → Int32 → Int32 → zM → Option (Int32 × zM)) (v1 : Int32) (v3 : Int32) (v5 : Int32) (v6 : Int32) (v7 : Int32) (mm : zM) : Option ((Int32 × Int32 × zM) ⊕ ((Int32 × zM) ⊕ (Int32 × zM))) :=
  fX10_calls_J107 rc v1 v3 v5 v6 v7 1 mm
def fX10_calls_L51 (rc : Int32 → Int32 → Int32 → zM → Option (Int32 × zM)) (v1 : Int32) (v3 : Int32) (s : (Int32 × Int32 × zM)) : Option ((Int32 × Int32 × zM) ⊕ ((Int32 × zM) ⊕ (Int32 × zM))) :=
  zob (zin ((gi s.2.2 10 0 22)) 12) (if (gi s.2.2 46 0 (zn ((gi s.2.2 10 0 22)))) ≤ s.2.1 then (some (.inr (.inl (s.1, s.2.2)))) else (zob (zin ((((12 * ((gi s.2.2 10 0 22)))) + s.2.1)) 144) ((fX10_kindOf ((gi s.2.2 45 0 (zn ((((12 * ((gi s.2.2 10 0 22)))) + s.2.1))))) v1 s.2.2).bind (fun x2 => if s.1 = 0 then (if x2 = 2 then (fX10_calls_J102 rc v1 v3 s.2.1 ((gi s.2.2 45 0 (zn ((((12 * ((gi s.2.2 10 0 22)))) + s.2.1))))) x2 s.2.2) else (fX10_calls_J107 rc v1 v3 s.2.1 ((gi s.2.2 45 0 (zn ((((12 * ((gi s.2.2 10 0 22)))) + s.2.1))))) x2 0 s.2.2)) else (fX10_calls_J102 rc v1 v3 s.2.1 ((gi s.2.2 45 0 (zn ((((12 * ((gi s.2.2 10 0 22)))) + s.2.1))))) x2 s.2.2)))))
def fX10_calls_J157 (rc : Int32 → Int32 → Int32 → zM → Option (Int32 × zM)) (v3 : Int32) (s0 : Int32) (mm : zM) : Option (Int32 × zM) :=
  (fX10_ends s0 v3 mm).bind (fun x7 => some ((0, x7)))
def fX10_calls (rc : Int32 → Int32 → Int32 → zM → Option (Int32 × zM)) (v1 : Int32) (v2 : Int32) (v3 : Int32) (mm : zM) : Option (Int32 × zM) :=
  if v3 = 16 then (fX10_calls_J15 rc v3 mm) else (if (gi mm 10 0 24) = 100 then (fX10_calls_J15 rc v3 mm) else ((zloop (fX10_calls_L51 rc v1 v3) zF (0, v2, (wi ((wi mm 10 0 24 ((((gi mm 10 0 24)) + 1)))) 10 0 25 ((if ((gi ((wi mm 10 0 24 ((((gi mm 10 0 24)) + 1)))) 10 0 25)) < v3 then v3 else ((gi ((wi mm 10 0 24 ((((gi mm 10 0 24)) + 1)))) 10 0 25))))))).bind (fun o8 => zcase o8 (fun y5 => if y5.1 = 0 then (fX10_calls_J157 rc v3 1 y5.2) else (fX10_calls_J157 rc v3 2 y5.2)) (fun r6 => some r6))))
def fX10_calls_n : Nat → Int32 → Int32 → Int32 → zM → Option (Int32 × zM)
  | 0 => fun _ _ _ _ => none
  | n + 1 => fX10_calls (fX10_calls_n n)
theorem wX10_calls_J15 {E : zE} {d : Nat} (hd : 3 ≤ d) {rc : Int32 → Int32 → Int32 → zM → Option (Int32 × zM)} {dr : Nat} (hrc : ∀ (a0 a1 a2 : Int32) (mm : zM) (o : Int32 × zM), rc a0 a1 a2 mm = some o → zOC E yX10_calls cX10_calls 8 (some .int) dr [zK 10 0, zI a0, zI a1, zI a2] mm (some (zI o.1)) o.2) (hdr : dr + 2 ≤ d) {Q : Option zV → zM → Prop} {v3 : Int32} {mm : zM} {o : (Int32 × zM)} (h : fX10_calls_J15 rc v3 mm = some o) (hQ : ∀ r, o = r → Q (some (zI r.1)) r.2) : V E RX10 cX10_calls 8 (some .int) d Q 15 [some (zK 10 0), none, none, some (zI v3), none, none, none, none] [] mm := by
  unfold fX10_calls_J15 at h
  refine V_aload_n 16 rfl 0 dX10_calls_15 rfl rfl ?_
  refine V_iconst 17 rfl (v := 5) dX10_calls_16 (by decide) ?_
  refine V_iload_n 18 rfl 3 dX10_calls_17 rfl rfl ?_
  obtain ⟨x1, h1, h⟩ := zbd h
  refine V_cV 21 rfl 0 [zI 5, zI v3] [] dX10_calls_18 cv_X10_315 (ctX10_ends (Nat.le_refl 0) h1) (Nat.le_trans (by decide) hd) rfl rfl (Nat.le_of_ble_eq_true rfl) zokn rfl ?_
  refine V_iconst 22 rfl (v := 0) dX10_calls_21 (by decide) ?_
  exact V_iret dX10_calls_22 rfl (hQ ((0, x1)) (zinj h))
theorem wX10_calls_J107 {E : zE} {d : Nat} (hd : 3 ≤ d) {rc : Int32 → Int32 → Int32 → zM → Option (Int32 × zM)} {dr : Nat} (hrc : ∀ (a0 a1 a2 : Int32) (mm : zM) (o : Int32 × zM), rc a0 a1 a2 mm = some o → zOC E yX10_calls cX10_calls 8 (some .int) dr [zK 10 0, zI a0, zI a1, zI a2] mm (some (zI o.1)) o.2) (hdr : dr + 2 ≤ d) {Q : Option zV → zM → Prop} {v1 : Int32} {v3 : Int32} {v5 : Int32} {v6 : Int32} {v7 : Int32} {s0 : Int32} {mm : zM} {o : ((Int32 × Int32 × zM) ⊕ ((Int32 × zM) ⊕ (Int32 × zM)))} (h : fX10_calls_J107 rc v1 v3 v5 v6 v7 s0 mm = some o) (kc : ∀ s' : (Int32 × Int32 × zM), o = .inl s' → V E RX10 cX10_calls 8 (some .int) d Q 51 [some (zK 10 0), some (zI v1), none, some (zI v3), some (zI s'.1), some (zI s'.2.1), none, none] [] s'.2.2) (ke : ∀ y : (Int32 × zM), o = .inr (.inl y) → V E RX10 cX10_calls 8 (some .int) d Q 146 [some (zK 10 0), none, none, some (zI v3), some (zI y.1), none, none, none] [] y.2) (kr : ∀ r : (Int32 × zM), o = .inr (.inr r) → Q (some (zI r.1)) r.2) : V E RX10 cX10_calls 8 (some .int) d Q 107 [some (zK 10 0), some (zI v1), none, some (zI v3), none, some (zI v5), some (zI v6), some (zI v7)] [zI s0] mm := by
  unfold fX10_calls_J107 at h
  refine V_istore 109 rfl (L' := [some (zK 10 0), some (zI v1), none, some (zI v3), some (zI s0), some (zI v5), some (zI v6), some (zI v7)]) dX10_calls_107 (by decide) rfl ?_
  refine V_iload 111 rfl dX10_calls_109 rfl ?_
  refine V_iconst 112 rfl (v := 3) dX10_calls_111 (by decide) ?_
  refine V_icmp_ne 115 123 rfl dX10_calls_112 (by decide) (fun c => ?_) (fun c => ?_)
  · have h := zneg c h
    refine V_iload 125 rfl dX10_calls_123 rfl ?_
    refine V_iconst 126 rfl (v := 1) dX10_calls_125 (by decide) ?_
    refine V_icmp_ne 129 140 rfl dX10_calls_126 (by decide) (fun c => ?_) (fun c => ?_)
    · have h := zneg c h
      refine V_iinc 143 rfl (v5 + 1) (L' := [some (zK 10 0), some (zI v1), none, some (zI v3), some (zI s0), some (zI (v5 + 1)), some (zI v6), some (zI v7)]) dX10_calls_140 rfl rfl (by decide) rfl ?_
      refine V_goto 51 dX10_calls_143 (by decide) ?_
      exact V_w (zsub_s (zsub_s (zsub_s (zsub_s (zsub_s (zsub_s (zsub_n (zsub_n zsub_0)))))))) (kc (s0, (v5 + 1), mm) (zinj h))
    · have h := zpos c h
      refine V_aload_n 130 rfl 0 dX10_calls_129 rfl rfl ?_
      refine V_iload 132 rfl dX10_calls_130 rfl ?_
      refine V_iload_n 133 rfl 1 dX10_calls_132 rfl rfl ?_
      refine V_iload 135 rfl dX10_calls_133 rfl ?_
      refine V_iload_n 136 rfl 3 dX10_calls_135 rfl rfl ?_
      obtain ⟨x3, h1, h⟩ := zbd h
      refine V_cV 139 rfl (d - 1) [zI v6, zI v1, zI v5, zI v3] [] dX10_calls_136 cv_X10_327 (ctX10_works (d := d - 1) (dr := dr) (by omega) hrc (by omega) h1) (by omega) rfl rfl (Nat.le_of_ble_eq_true rfl) zoki rfl ?_
      exact V_iret dX10_calls_139 rfl (kr ((x3.1, x3.2)) (zinj h))
  · have h := zpos c h
    refine V_aload_n 116 rfl 0 dX10_calls_115 rfl rfl ?_
    refine V_iconst 117 rfl (v := 3) dX10_calls_116 (by decide) ?_
    refine V_iload_n 118 rfl 3 dX10_calls_117 rfl rfl ?_
    obtain ⟨x4, h1, h⟩ := zbd h
    refine V_cV 121 rfl 0 [zI 3, zI v3] [] dX10_calls_118 cv_X10_315 (ctX10_ends (Nat.le_refl 0) h1) (Nat.le_trans (by decide) hd) rfl rfl (Nat.le_of_ble_eq_true rfl) zokn rfl ?_
    refine V_iconst 122 rfl (v := 0) dX10_calls_121 (by decide) ?_
    exact V_iret dX10_calls_122 rfl (kr ((0, x4)) (zinj h))
theorem wX10_calls_J102 {E : zE} {d : Nat} (hd : 3 ≤ d) {rc : Int32 → Int32 → Int32 → zM → Option (Int32 × zM)} {dr : Nat} (hrc : ∀ (a0 a1 a2 : Int32) (mm : zM) (o : Int32 × zM), rc a0 a1 a2 mm = some o → zOC E yX10_calls cX10_calls 8 (some .int) dr [zK 10 0, zI a0, zI a1, zI a2] mm (some (zI o.1)) o.2) (hdr : dr + 2 ≤ d) {Q : Option zV → zM → Prop} {v1 : Int32} {v3 : Int32} {v5 : Int32} {v6 : Int32} {v7 : Int32} {mm : zM} {o : ((Int32 × Int32 × zM) ⊕ ((Int32 × zM) ⊕ (Int32 × zM)))} (h : fX10_calls_J102 rc v1 v3 v5 v6 v7 mm = some o) (kc : ∀ s' : (Int32 × Int32 × zM), o = .inl s' → V E RX10 cX10_calls 8 (some .int) d Q 51 [some (zK 10 0), some (zI v1), none, some (zI v3), some (zI s'.1), some (zI s'.2.1), none, none] [] s'.2.2) (ke : ∀ y : (Int32 × zM), o = .inr (.inl y) → V E RX10 cX10_calls 8 (some .int) d Q 146 [some (zK 10 0), none, none, some (zI v3), some (zI y.1), none, none, none] [] y.2) (kr : ∀ r : (Int32 × zM), o = .inr (.inr r) → Q (some (zI r.1)) r.2) : V E RX10 cX10_calls 8 (some .int) d Q 102 [some (zK 10 0), some (zI v1), none, some (zI v3), none, some (zI v5), some (zI v6), some (zI v7)] [] mm := by
  unfold fX10_calls_J102 at h
  refine V_iconst 103 rfl (v := 1) dX10_calls_102 (by decide) ?_
  refine V_goto 107 dX10_calls_103 (by decide) ?_
  exact wX10_calls_J107 hd hrc hdr h kc ke kr
theorem wX10_calls_L51 {E : zE} {d : Nat} (hd : 3 ≤ d) {rc : Int32 → Int32 → Int32 → zM → Option (Int32 × zM)} {dr : Nat} (hrc : ∀ (a0 a1 a2 : Int32) (mm : zM) (o : Int32 × zM), rc a0 a1 a2 mm = some o → zOC E yX10_calls cX10_calls 8 (some .int) dr [zK 10 0, zI a0, zI a1, zI a2] mm (some (zI o.1)) o.2) (hdr : dr + 2 ≤ d) {Q : Option zV → zM → Prop} {v1 : Int32} {v3 : Int32} {n : Nat} {s : (Int32 × Int32 × zM)} {o : (Int32 × zM) ⊕ (Int32 × zM)} (h : zloop (fX10_calls_L51 rc v1 v3) n s = some o) (he : ∀ y : (Int32 × zM), o = .inl y → V E RX10 cX10_calls 8 (some .int) d Q 146 [some (zK 10 0), none, none, some (zI v3), some (zI y.1), none, none, none] [] y.2) (hr : ∀ r : (Int32 × zM), o = .inr r → Q (some (zI r.1)) r.2) : V E RX10 cX10_calls 8 (some .int) d Q 51 [some (zK 10 0), some (zI v1), none, some (zI v3), some (zI s.1), some (zI s.2.1), none, none] [] s.2.2 := by
  induction n generalizing s with
  | zero => exact (zloop_0 h).elim
  | succ n ih =>
    obtain ⟨o1, h1, hc1, he1⟩ := zloop_s h
    have kc : ∀ s' : (Int32 × Int32 × zM), o1 = .inl s' → V E RX10 cX10_calls 8 (some .int) d Q 51 [some (zK 10 0), some (zI v1), none, some (zI v3), some (zI s'.1), some (zI s'.2.1), none, none] [] s'.2.2 := fun s' e => ih (hc1 s' e)
    have ke : ∀ y : (Int32 × zM), o1 = .inr (.inl y) → V E RX10 cX10_calls 8 (some .int) d Q 146 [some (zK 10 0), none, none, some (zI v3), some (zI y.1), none, none, none] [] y.2 := fun y e => he y (he1 _ e)
    have kr : ∀ r : (Int32 × zM), o1 = .inr (.inr r) → Q (some (zI r.1)) r.2 := fun r e => hr r (he1 _ e)
    clear h hc1 he1 ih
    have h := h1
    clear h1
    unfold fX10_calls_L51 at h
    refine V_iload 53 rfl dX10_calls_51 rfl ?_
    refine V_aload_n 54 rfl 0 dX10_calls_53 rfl rfl ?_
    refine V_getr 57 rfl 46 0 dX10_calls_54 fl_X10_38 rfl rfl rfl ?_
    refine V_aload_n 58 rfl 0 dX10_calls_57 rfl rfl ?_
    refine V_geti 61 rfl dX10_calls_58 fl_X10_324 rfl ?_
    obtain ⟨hi, h⟩ := zobd h
    refine V_iald 62 rfl dX10_calls_61 rfl hi ?_
    refine V_icmp_ge 65 146 rfl dX10_calls_62 (by decide) (fun c => ?_) (fun c => ?_)
    · have h := zpos c h
      exact V_w (zsub_s (zsub_n (zsub_s (zsub_s (zsub_s (zsub_n (zsub_s (zsub_s zsub_0)))))))) (ke (s.1, s.2.2) (zinj h))
    · have h := zneg c h
      refine V_aload_n 66 rfl 0 dX10_calls_65 rfl rfl ?_
      refine V_getr 69 rfl 45 0 dX10_calls_66 fl_X10_35 rfl rfl rfl ?_
      refine V_bipush 71 rfl (v := 12) dX10_calls_69 (by decide) ?_
      refine V_aload_n 72 rfl 0 dX10_calls_71 rfl rfl ?_
      refine V_geti 75 rfl dX10_calls_72 fl_X10_324 rfl ?_
      refine V_imul 76 rfl dX10_calls_75 ?_
      refine V_iload 78 rfl dX10_calls_76 rfl ?_
      refine V_iadd 79 rfl dX10_calls_78 ?_
      obtain ⟨hi, h⟩ := zobd h
      refine V_iald 80 rfl dX10_calls_79 rfl hi ?_
      refine V_istore 82 rfl (L' := [some (zK 10 0), some (zI v1), none, some (zI v3), some (zI s.1), some (zI s.2.1), some (zI (gi s.2.2 45 0 (zn ((((12 * ((gi s.2.2 10 0 22)))) + s.2.1))))), none]) dX10_calls_80 (by decide) rfl ?_
      refine V_aload_n 83 rfl 0 dX10_calls_82 rfl rfl ?_
      refine V_iload 85 rfl dX10_calls_83 rfl ?_
      refine V_iload_n 86 rfl 1 dX10_calls_85 rfl rfl ?_
      obtain ⟨x2, h1, h⟩ := zbd h
      refine V_cV 89 rfl 1 [zI (gi s.2.2 45 0 (zn ((((12 * ((gi s.2.2 10 0 22)))) + s.2.1)))), zI v1] [] dX10_calls_86 cv_X10_276 (ctX10_kindOf (Nat.le_refl 1) h1) (Nat.le_trans (by decide) hd) rfl rfl (Nat.le_of_ble_eq_true rfl) zoki rfl ?_
      refine V_istore 91 rfl (L' := [some (zK 10 0), some (zI v1), none, some (zI v3), some (zI s.1), some (zI s.2.1), some (zI (gi s.2.2 45 0 (zn ((((12 * ((gi s.2.2 10 0 22)))) + s.2.1))))), some (zI x2)]) dX10_calls_89 (by decide) rfl ?_
      refine V_iload 93 rfl dX10_calls_91 rfl ?_
      refine V_if_ne 96 102 rfl dX10_calls_93 (by decide) (fun c => ?_) (fun c => ?_)
      · have h := zneg c h
        exact V_w (zsub_s (zsub_s (zsub_s (zsub_s (zsub_n (zsub_s (zsub_s (zsub_s zsub_0)))))))) (wX10_calls_J102 hd hrc hdr h kc ke kr)
      · have h := zpos c h
        refine V_iload 98 rfl dX10_calls_96 rfl ?_
        refine V_iconst 99 rfl (v := 2) dX10_calls_98 (by decide) ?_
        refine V_icmp_ne 102 106 rfl dX10_calls_99 (by decide) (fun c => ?_) (fun c => ?_)
        · have h := zneg c h
          refine V_iconst 107 rfl (v := 0) dX10_calls_106 (by decide) ?_
          exact V_w (zsub_s (zsub_s (zsub_s (zsub_s (zsub_n (zsub_s (zsub_s (zsub_s zsub_0)))))))) (wX10_calls_J107 hd hrc hdr h kc ke kr)
        · have h := zpos c h
          exact V_w (zsub_s (zsub_s (zsub_s (zsub_s (zsub_n (zsub_s (zsub_s (zsub_s zsub_0)))))))) (wX10_calls_J102 hd hrc hdr h kc ke kr)
theorem wX10_calls_J157 {E : zE} {d : Nat} (hd : 3 ≤ d) {rc : Int32 → Int32 → Int32 → zM → Option (Int32 × zM)} {dr : Nat} (hrc : ∀ (a0 a1 a2 : Int32) (mm : zM) (o : Int32 × zM), rc a0 a1 a2 mm = some o → zOC E yX10_calls cX10_calls 8 (some .int) dr [zK 10 0, zI a0, zI a1, zI a2] mm (some (zI o.1)) o.2) (hdr : dr + 2 ≤ d) {Q : Option zV → zM → Prop} {v3 : Int32} {s0 : Int32} {mm : zM} {o : (Int32 × zM)} (h : fX10_calls_J157 rc v3 s0 mm = some o) (hQ : ∀ r, o = r → Q (some (zI r.1)) r.2) : V E RX10 cX10_calls 8 (some .int) d Q 157 [none, none, none, some (zI v3), none, none, none, none] [zI s0, zK 10 0] mm := by
  unfold fX10_calls_J157 at h
  refine V_iload_n 158 rfl 3 dX10_calls_157 rfl rfl ?_
  obtain ⟨x7, h1, h⟩ := zbd h
  refine V_cV 161 rfl 0 [zI s0, zI v3] [] dX10_calls_158 cv_X10_315 (ctX10_ends (Nat.le_refl 0) h1) (Nat.le_trans (by decide) hd) rfl rfl (Nat.le_of_ble_eq_true rfl) zokn rfl ?_
  refine V_iconst 162 rfl (v := 0) dX10_calls_161 (by decide) ?_
  exact V_iret dX10_calls_162 rfl (hQ ((0, x7)) (zinj h))
theorem wX10_calls {E : zE} {d : Nat} (hd : 3 ≤ d) {rc : Int32 → Int32 → Int32 → zM → Option (Int32 × zM)} {dr : Nat} (hrc : ∀ (a0 a1 a2 : Int32) (mm : zM) (o : Int32 × zM), rc a0 a1 a2 mm = some o → zOC E yX10_calls cX10_calls 8 (some .int) dr [zK 10 0, zI a0, zI a1, zI a2] mm (some (zI o.1)) o.2) (hdr : dr + 2 ≤ d) {Q : Option zV → zM → Prop} {v1 : Int32} {v2 : Int32} {v3 : Int32} {mm : zM} {o : (Int32 × zM)} (h : fX10_calls rc v1 v2 v3 mm = some o) (hQ : ∀ r, o = r → Q (some (zI r.1)) r.2) : V E RX10 cX10_calls 8 (some .int) d Q 0 [some (zK 10 0), some (zI v1), some (zI v2), some (zI v3), none, none, none, none] [] mm := by
  unfold fX10_calls at h
  refine V_iload_n 1 rfl 3 dX10_calls_0 rfl rfl ?_
  refine V_bipush 3 rfl (v := 16) dX10_calls_1 (by decide) ?_
  refine V_icmp_eq 6 15 rfl dX10_calls_3 (by decide) (fun c => ?_) (fun c => ?_)
  · have h := zpos c h
    exact V_w (zsub_s (zsub_n (zsub_n (zsub_s (zsub_s (zsub_s (zsub_s (zsub_s zsub_0)))))))) (wX10_calls_J15 hd hrc hdr h hQ)
  · have h := zneg c h
    refine V_aload_n 7 rfl 0 dX10_calls_6 rfl rfl ?_
    refine V_geti 10 rfl dX10_calls_7 fl_X10_312 rfl ?_
    refine V_bipush 12 rfl (v := 100) dX10_calls_10 (by decide) ?_
    refine V_icmp_ne 15 23 rfl dX10_calls_12 (by decide) (fun c => ?_) (fun c => ?_)
    · have h := zneg c h
      refine V_aload_n 24 rfl 0 dX10_calls_23 rfl rfl ?_
      refine V_dup 25 rfl dX10_calls_24 rfl ?_
      refine V_geti 28 rfl dX10_calls_25 fl_X10_312 rfl ?_
      refine V_iconst 29 rfl (v := 1) dX10_calls_28 (by decide) ?_
      refine V_iadd 30 rfl dX10_calls_29 ?_
      refine V_puti 33 rfl dX10_calls_30 fw_X10_312 rfl rfl rfl ?_
      refine V_aload_n 34 rfl 0 dX10_calls_33 rfl rfl ?_
      refine V_aload_n 35 rfl 0 dX10_calls_34 rfl rfl ?_
      refine V_geti 38 rfl dX10_calls_35 fl_X10_318 rfl ?_
      refine V_iload_n 39 rfl 3 dX10_calls_38 rfl rfl ?_
      refine V_mmax 42 rfl dX10_calls_39 tb_1550 (Nat.le_trans (by decide) hd) (Nat.le_of_ble_eq_true rfl) ?_
      refine V_puti 45 rfl dX10_calls_42 fw_X10_318 rfl rfl rfl ?_
      refine V_iconst 46 rfl (v := 0) dX10_calls_45 (by decide) ?_
      refine V_istore 48 rfl (L' := [some (zK 10 0), some (zI v1), some (zI v2), some (zI v3), some (zI 0), none, none, none]) dX10_calls_46 (by decide) rfl ?_
      refine V_iload_n 49 rfl 2 dX10_calls_48 rfl rfl ?_
      refine V_istore 51 rfl (L' := [some (zK 10 0), some (zI v1), some (zI v2), some (zI v3), some (zI 0), some (zI v2), none, none]) dX10_calls_49 (by decide) rfl ?_
      obtain ⟨o8, h1, h⟩ := zbd h
      refine V_w (zsub_s (zsub_s (zsub_n (zsub_s (zsub_s (zsub_s (zsub_s (zsub_s zsub_0)))))))) (wX10_calls_L51 hd hrc hdr h1 (fun y5 e => ?_) (fun r e => by have h := zcr_ e h; exact hQ r (zinj h)))
      have h := zcl_ e h
      refine V_aload_n 147 rfl 0 dX10_calls_146 rfl rfl ?_
      refine V_iload 149 rfl dX10_calls_147 rfl ?_
      refine V_if_eq 152 156 rfl dX10_calls_149 (by decide) (fun c => ?_) (fun c => ?_)
      · have h := zpos c h
        refine V_iconst 157 rfl (v := 1) dX10_calls_156 (by decide) ?_
        exact V_w (zsub_n (zsub_s (zsub_s (zsub_s (zsub_n (zsub_s (zsub_s (zsub_s zsub_0)))))))) (wX10_calls_J157 hd hrc hdr h hQ)
      · have h := zneg c h
        refine V_iconst 153 rfl (v := 2) dX10_calls_152 (by decide) ?_
        refine V_goto 157 dX10_calls_153 (by decide) ?_
        exact V_w (zsub_n (zsub_s (zsub_s (zsub_s (zsub_n (zsub_s (zsub_s (zsub_s zsub_0)))))))) (wX10_calls_J157 hd hrc hdr h hQ)
    · have h := zpos c h
      exact V_w (zsub_s (zsub_n (zsub_n (zsub_s (zsub_s (zsub_s (zsub_s (zsub_s zsub_0)))))))) (wX10_calls_J15 hd hrc hdr h hQ)
theorem ctX10_calls {E : zE} {d : Nat} (hd : 3 ≤ d) {rc : Int32 → Int32 → Int32 → zM → Option (Int32 × zM)} {dr : Nat} (hrc : ∀ (a0 a1 a2 : Int32) (mm : zM) (o : Int32 × zM), rc a0 a1 a2 mm = some o → zOC E yX10_calls cX10_calls 8 (some .int) dr [zK 10 0, zI a0, zI a1, zI a2] mm (some (zI o.1)) o.2) (hdr : dr + 2 ≤ d) {v1 : Int32} {v2 : Int32} {v3 : Int32} {mm : zM} {o : (Int32 × zM)} (h : fX10_calls rc v1 v2 v3 mm = some o) : zOC E yX10_calls cX10_calls 8 (some .int) d [zK 10 0, zI v1, zI v2, zI v3] mm (some (zI o.1)) o.2 :=
  zCT_of (by decide) (Nat.le_of_ble_eq_true rfl) (zk_k (zk_i (zk_i (zk_i zk_0)))) rfl (wX10_calls hd hrc hdr h (fun r e => ⟨by rw [e], by rw [e]⟩))
theorem ctX10_calls_n {E : zE} : ∀ (n : Nat) {d : Nat} (_ : 3 + 2 * n ≤ d) {v1 : Int32} {v2 : Int32} {v3 : Int32} {mm : zM} {o : (Int32 × zM)} (_ : fX10_calls_n n v1 v2 v3 mm = some o), zOC E yX10_calls cX10_calls 8 (some .int) d [zK 10 0, zI v1, zI v2, zI v3] mm (some (zI o.1)) o.2
  | 0, _, _, _, _, _, _, _, h => by cases h
  | n + 1, d, hd, v1, v2, v3, mm, o, h => ctX10_calls (d := d) (dr := d - 2) (by omega) (fun _ _ _ mm o h => ctX10_calls_n n (by omega) h) (by omega) h
def fX10_sends (v1 : Int32) (v2 : Int32) (mm : zM) : Option (Int32 × zM) :=
  zob (zin v1 12) (if (gi ((wi ((wi ((wi ((wi ((wi ((wi ((wi mm 10 0 22 v1)) 10 0 23 0)) 10 0 24 0)) 10 0 25 ((-1)))) 10 0 26 ((-1)))) 10 0 27 ((-1)))) 10 0 28 0)) 46 0 (zn v1)) = 0 then (some ((0, (wi ((wi ((wi ((wi ((wi ((wi ((wi ((wi mm 10 0 22 v1)) 10 0 23 0)) 10 0 24 0)) 10 0 25 ((-1)))) 10 0 26 ((-1)))) 10 0 27 ((-1)))) 10 0 28 0)) 10 0 23 4)))) else ((fX10_calls_n 20 v2 0 0 ((wi ((wi ((wi ((wi ((wi ((wi ((wi mm 10 0 22 v1)) 10 0 23 0)) 10 0 24 0)) 10 0 25 ((-1)))) 10 0 26 ((-1)))) 10 0 27 ((-1)))) 10 0 28 0))).bind (fun x1 => if (gi x1.2 10 0 23) = 0 then (some ((x1.1, x1.2))) else (some ((0, x1.2))))))
theorem wX10_sends {E : zE} {d : Nat} (hd : 44 ≤ d) {Q : Option zV → zM → Prop} {v1 : Int32} {v2 : Int32} {mm : zM} {o : (Int32 × zM)} (h : fX10_sends v1 v2 mm = some o) (hQ : ∀ r, o = r → Q (some (zI r.1)) r.2) : V E RX10 cX10_sends 4 (some .int) d Q 0 [some (zK 10 0), some (zI v1), some (zI v2), none] [] mm := by
  unfold fX10_sends at h
  refine V_aload_n 1 rfl 0 dX10_sends_0 rfl rfl ?_
  refine V_iload_n 2 rfl 1 dX10_sends_1 rfl rfl ?_
  refine V_puti 5 rfl dX10_sends_2 fw_X10_324 rfl rfl rfl ?_
  refine V_aload_n 6 rfl 0 dX10_sends_5 rfl rfl ?_
  refine V_iconst 7 rfl (v := 0) dX10_sends_6 (by decide) ?_
  refine V_puti 10 rfl dX10_sends_7 fw_X10_306 rfl rfl rfl ?_
  refine V_aload_n 11 rfl 0 dX10_sends_10 rfl rfl ?_
  refine V_iconst 12 rfl (v := 0) dX10_sends_11 (by decide) ?_
  refine V_puti 15 rfl dX10_sends_12 fw_X10_312 rfl rfl rfl ?_
  refine V_aload_n 16 rfl 0 dX10_sends_15 rfl rfl ?_
  refine V_iconst 17 rfl (v := (-1)) dX10_sends_16 (by decide) ?_
  refine V_puti 20 rfl dX10_sends_17 fw_X10_318 rfl rfl rfl ?_
  refine V_aload_n 21 rfl 0 dX10_sends_20 rfl rfl ?_
  refine V_iconst 22 rfl (v := (-1)) dX10_sends_21 (by decide) ?_
  refine V_puti 25 rfl dX10_sends_22 fw_X10_330 rfl rfl rfl ?_
  refine V_aload_n 26 rfl 0 dX10_sends_25 rfl rfl ?_
  refine V_iconst 27 rfl (v := (-1)) dX10_sends_26 (by decide) ?_
  refine V_puti 30 rfl dX10_sends_27 fw_X10_309 rfl rfl rfl ?_
  refine V_aload_n 31 rfl 0 dX10_sends_30 rfl rfl ?_
  refine V_iconst 32 rfl (v := 0) dX10_sends_31 (by decide) ?_
  refine V_puti 35 rfl dX10_sends_32 fw_X10_333 rfl rfl rfl ?_
  refine V_aload_n 36 rfl 0 dX10_sends_35 rfl rfl ?_
  refine V_getr 39 rfl 46 0 dX10_sends_36 fl_X10_38 rfl rfl rfl ?_
  refine V_iload_n 40 rfl 1 dX10_sends_39 rfl rfl ?_
  obtain ⟨hi, h⟩ := zobd h
  refine V_iald 41 rfl dX10_sends_40 rfl hi ?_
  refine V_if_ne 44 51 rfl dX10_sends_41 (by decide) (fun c => ?_) (fun c => ?_)
  · have h := zneg c h
    refine V_aload_n 52 rfl 0 dX10_sends_51 rfl rfl ?_
    refine V_iload_n 53 rfl 2 dX10_sends_52 rfl rfl ?_
    refine V_iconst 54 rfl (v := 0) dX10_sends_53 (by decide) ?_
    refine V_iconst 55 rfl (v := 0) dX10_sends_54 (by decide) ?_
    obtain ⟨x1, h1, h⟩ := zbd h
    refine V_cV 58 rfl 43 [zI v2, zI 0, zI 0] [] dX10_sends_55 cv_X10_336 (ctX10_calls_n 20 (Nat.le_refl _) h1) (Nat.le_trans (by decide) hd) rfl rfl (Nat.le_of_ble_eq_true rfl) zoki rfl ?_
    refine V_istore_n 59 rfl 3 (L' := [some (zK 10 0), some (zI v1), some (zI v2), some (zI x1.1)]) dX10_sends_58 rfl (by decide) rfl ?_
    refine V_aload_n 60 rfl 0 dX10_sends_59 rfl rfl ?_
    refine V_geti 63 rfl dX10_sends_60 fl_X10_306 rfl ?_
    refine V_if_ne 66 70 rfl dX10_sends_63 (by decide) (fun c => ?_) (fun c => ?_)
    · have h := zneg c h
      refine V_iconst 71 rfl (v := 0) dX10_sends_70 (by decide) ?_
      exact V_iret dX10_sends_71 rfl (hQ ((0, x1.2)) (zinj h))
    · have h := zpos c h
      refine V_iload_n 67 rfl 3 dX10_sends_66 rfl rfl ?_
      refine V_goto 71 dX10_sends_67 (by decide) ?_
      exact V_iret dX10_sends_71 rfl (hQ ((x1.1, x1.2)) (zinj h))
  · have h := zpos c h
    refine V_aload_n 45 rfl 0 dX10_sends_44 rfl rfl ?_
    refine V_iconst 46 rfl (v := 4) dX10_sends_45 (by decide) ?_
    refine V_puti 49 rfl dX10_sends_46 fw_X10_306 rfl rfl rfl ?_
    refine V_iconst 50 rfl (v := 0) dX10_sends_49 (by decide) ?_
    exact V_iret dX10_sends_50 rfl (hQ ((0, (wi ((wi ((wi ((wi ((wi ((wi ((wi ((wi mm 10 0 22 v1)) 10 0 23 0)) 10 0 24 0)) 10 0 25 ((-1)))) 10 0 26 ((-1)))) 10 0 27 ((-1)))) 10 0 28 0)) 10 0 23 4))) (zinj h))
theorem ctX10_sends {E : zE} {d : Nat} (hd : 44 ≤ d) {v1 : Int32} {v2 : Int32} {mm : zM} {o : (Int32 × zM)} (h : fX10_sends v1 v2 mm = some o) : zOC E yX10_sends cX10_sends 4 (some .int) d [zK 10 0, zI v1, zI v2] mm (some (zI o.1)) o.2 :=
  zCT_of (by decide) (Nat.le_of_ble_eq_true rfl) (zk_k (zk_i (zk_i zk_0))) rfl (wX10_sends hd h (fun r e => ⟨by rw [e], by rw [e]⟩))
def fX10_send (v1 : Int32) (v2 : Int32) (v3 : Int32) (mm : zM) : Option (Int32 × zM) :=
  (fX10_isType v1 mm).bind (fun x1 => if x1 = 0 then (some (((-2147483648), mm))) else ((fX10_in v2 0 25 mm).bind (fun x2 => if x2 = 0 then (some (((-2147483648), mm))) else ((fX10_lays_ mm).bind (fun x3 => (fX10_sends v1 v2 x3).bind (fun x4 => if v3 = 0 then (some (((gi x4.2 10 0 23), x4.2))) else (if v3 = 1 then (some ((x4.1, x4.2))) else (if v3 = 2 then (some (((gi x4.2 10 0 24), x4.2))) else (if v3 = 3 then (some (((gi x4.2 10 0 25), x4.2))) else (if v3 = 4 then (some (((gi x4.2 10 0 26), x4.2))) else (if v3 = 5 then (some (((gi x4.2 10 0 27), x4.2))) else (some (((-2147483648), x4.2))))))))))))))
theorem wX10_send {E : zE} {d : Nat} (hd : 45 ≤ d) {Q : Option zV → zM → Prop} {v1 : Int32} {v2 : Int32} {v3 : Int32} {mm : zM} {o : (Int32 × zM)} (h : fX10_send v1 v2 v3 mm = some o) (hQ : ∀ r, o = r → Q (some (zI r.1)) r.2) : V E RX10 cX10_send 5 (some .int) d Q 0 [some (zK 10 0), some (zI v1), some (zI v2), some (zI v3), none] [] mm := by
  unfold fX10_send at h
  refine V_aload_n 1 rfl 0 dX10_send_0 rfl rfl ?_
  refine V_iload_n 2 rfl 1 dX10_send_1 rfl rfl ?_
  obtain ⟨x1, h1, h⟩ := zbd h
  refine V_cV 5 rfl 2 [zI v1] [] dX10_send_2 cv_X10_258 (ctX10_isType (Nat.le_refl 2) h1) (Nat.le_trans (by decide) hd) rfl rfl (Nat.le_of_ble_eq_true rfl) zoki rfl ?_
  refine V_if_eq 8 18 rfl dX10_send_5 (by decide) (fun c => ?_) (fun c => ?_)
  · have h := zpos c h
    refine V_ldcw 21 rfl (v := (-2147483648)) dX10_send_18 tb_1537 ?_
    exact V_iret dX10_send_21 rfl (hQ (((-2147483648), mm)) (zinj h))
  · have h := zneg c h
    refine V_iload_n 9 rfl 2 dX10_send_8 rfl rfl ?_
    refine V_iconst 10 rfl (v := 0) dX10_send_9 (by decide) ?_
    refine V_bipush 12 rfl (v := 25) dX10_send_10 (by decide) ?_
    obtain ⟨x2, h1, h⟩ := zbd h
    refine V_cS 15 rfl 0 [zI v2, zI 0, zI 25] [] dX10_send_12 cs_X10_88 (ctX10_in (Nat.le_refl 0) h1) (Nat.le_trans (by decide) hd) rfl rfl (Nat.le_of_ble_eq_true rfl) zoki rfl ?_
    refine V_if_ne 18 22 rfl dX10_send_15 (by decide) (fun c => ?_) (fun c => ?_)
    · have h := zneg c h
      refine V_aload_n 23 rfl 0 dX10_send_22 rfl rfl ?_
      obtain ⟨x3, h1, h⟩ := zbd h
      refine V_cV 26 rfl 4 [] [] dX10_send_23 cv_X10_279 (ctX10_lays_ (Nat.le_refl 4) h1) (Nat.le_trans (by decide) hd) rfl rfl (Nat.le_of_ble_eq_true rfl) zokn rfl ?_
      refine V_aload_n 27 rfl 0 dX10_send_26 rfl rfl ?_
      refine V_iload_n 28 rfl 1 dX10_send_27 rfl rfl ?_
      refine V_iload_n 29 rfl 2 dX10_send_28 rfl rfl ?_
      obtain ⟨x4, h1, h⟩ := zbd h
      refine V_cV 32 rfl 44 [zI v1, zI v2] [] dX10_send_29 cv_X10_339 (ctX10_sends (Nat.le_refl 44) h1) (Nat.le_trans (by decide) hd) rfl rfl (Nat.le_of_ble_eq_true rfl) zoki rfl ?_
      refine V_istore 34 rfl (L' := [some (zK 10 0), some (zI v1), some (zI v2), some (zI v3), some (zI x4.1)]) dX10_send_32 (by decide) rfl ?_
      refine V_iload_n 35 rfl 3 dX10_send_34 rfl rfl ?_
      by_cases h_0 : v3 = 0
      · have h := zpos h_0 h
        refine V_tabIn 72 (off := 37) dX10_send_35 (by rw [h_0]; decide) (by rw [h_0]; decide) (by rw [h_0]; decide) (by decide) ?_
        refine V_aload_n 73 rfl 0 dX10_send_72 rfl rfl ?_
        refine V_geti 76 rfl dX10_send_73 fl_X10_306 rfl ?_
        exact V_iret dX10_send_76 rfl (hQ (((gi x4.2 10 0 23), x4.2)) (zinj h))
      · have h := zneg h_0 h
        by_cases h_1 : v3 = 1
        · have h := zpos h_1 h
          refine V_tabIn 77 (off := 42) dX10_send_35 (by rw [h_1]; decide) (by rw [h_1]; decide) (by rw [h_1]; decide) (by decide) ?_
          refine V_iload 79 rfl dX10_send_77 rfl ?_
          exact V_iret dX10_send_79 rfl (hQ ((x4.1, x4.2)) (zinj h))
        · have h := zneg h_1 h
          by_cases h_2 : v3 = 2
          · have h := zpos h_2 h
            refine V_tabIn 80 (off := 45) dX10_send_35 (by rw [h_2]; decide) (by rw [h_2]; decide) (by rw [h_2]; decide) (by decide) ?_
            refine V_aload_n 81 rfl 0 dX10_send_80 rfl rfl ?_
            refine V_geti 84 rfl dX10_send_81 fl_X10_312 rfl ?_
            exact V_iret dX10_send_84 rfl (hQ (((gi x4.2 10 0 24), x4.2)) (zinj h))
          · have h := zneg h_2 h
            by_cases h_3 : v3 = 3
            · have h := zpos h_3 h
              refine V_tabIn 85 (off := 50) dX10_send_35 (by rw [h_3]; decide) (by rw [h_3]; decide) (by rw [h_3]; decide) (by decide) ?_
              refine V_aload_n 86 rfl 0 dX10_send_85 rfl rfl ?_
              refine V_geti 89 rfl dX10_send_86 fl_X10_318 rfl ?_
              exact V_iret dX10_send_89 rfl (hQ (((gi x4.2 10 0 25), x4.2)) (zinj h))
            · have h := zneg h_3 h
              by_cases h_4 : v3 = 4
              · have h := zpos h_4 h
                refine V_tabIn 90 (off := 55) dX10_send_35 (by rw [h_4]; decide) (by rw [h_4]; decide) (by rw [h_4]; decide) (by decide) ?_
                refine V_aload_n 91 rfl 0 dX10_send_90 rfl rfl ?_
                refine V_geti 94 rfl dX10_send_91 fl_X10_330 rfl ?_
                exact V_iret dX10_send_94 rfl (hQ (((gi x4.2 10 0 26), x4.2)) (zinj h))
              · have h := zneg h_4 h
                by_cases h_5 : v3 = 5
                · have h := zpos h_5 h
                  refine V_tabIn 95 (off := 60) dX10_send_35 (by rw [h_5]; decide) (by rw [h_5]; decide) (by rw [h_5]; decide) (by decide) ?_
                  refine V_aload_n 96 rfl 0 dX10_send_95 rfl rfl ?_
                  refine V_geti 99 rfl dX10_send_96 fl_X10_309 rfl ?_
                  exact V_iret dX10_send_99 rfl (hQ (((gi x4.2 10 0 27), x4.2)) (zinj h))
                · have h := zneg h_5 h
                  refine V_tabOut 100 dX10_send_35 (by have n0 := zne h_0; simp only [show ((0 : Int32)).toInt = 0 from by decide] at n0; have n1 := zne h_1; simp only [show ((1 : Int32)).toInt = 1 from by decide] at n1; have n2 := zne h_2; simp only [show ((2 : Int32)).toInt = 2 from by decide] at n2; have n3 := zne h_3; simp only [show ((3 : Int32)).toInt = 3 from by decide] at n3; have n4 := zne h_4; simp only [show ((4 : Int32)).toInt = 4 from by decide] at n4; have n5 := zne h_5; simp only [show ((5 : Int32)).toInt = 5 from by decide] at n5; omega) (by decide) ?_
                  refine V_ldcw 103 rfl (v := (-2147483648)) dX10_send_100 tb_1537 ?_
                  exact V_iret dX10_send_103 rfl (hQ (((-2147483648), x4.2)) (zinj h))
    · have h := zpos c h
      refine V_ldcw 21 rfl (v := (-2147483648)) dX10_send_18 tb_1537 ?_
      exact V_iret dX10_send_21 rfl (hQ (((-2147483648), mm)) (zinj h))
theorem ctX10_send {E : zE} {d : Nat} (hd : 45 ≤ d) {v1 : Int32} {v2 : Int32} {v3 : Int32} {mm : zM} {o : (Int32 × zM)} (h : fX10_send v1 v2 v3 mm = some o) : zOC E yX10_send cX10_send 5 (some .int) d [zK 10 0, zI v1, zI v2, zI v3] mm (some (zI o.1)) o.2 :=
  zCT_of (by decide) (Nat.le_of_ble_eq_true rfl) (zk_k (zk_i (zk_i (zk_i zk_0)))) rfl (wX10_send hd h (fun r e => ⟨by rw [e], by rw [e]⟩))
def fX10_chain_L46 (v1 : Int32) (v2 : Int32) (v3 : Int32) (mm : zM) (s : (Int32 × Int32)) : Option ((Int32 × Int32) ⊕ (Int32 ⊕ (Int32 × zM))) :=
  zob (zin v1 12) (if (gi mm 46 0 (zn v1)) ≤ s.2 then (some (.inr (.inl s.1))) else (zob (zin ((((12 * v1)) + s.2)) 144) ((fX10_kindOf ((gi mm 45 0 (zn ((((12 * v1)) + s.2))))) v2 mm).bind (fun x4 => if x4 = 1 then (if s.1 = v3 then (some (.inr (.inr (((gi mm 45 0 (zn ((((12 * v1)) + s.2)))), mm))))) else (some (.inl ((s.1 + 1), (s.2 + 1))))) else (some (.inl (s.1, (s.2 + 1))))))))
def fX10_chain (v1 : Int32) (v2 : Int32) (v3 : Int32) (mm : zM) : Option (Int32 × zM) :=
  (fX10_isType v1 mm).bind (fun x1 => if x1 = 0 then (some (((-1), mm))) else ((fX10_in v2 0 25 mm).bind (fun x2 => if x2 = 0 then (some (((-1), mm))) else (if (-1) ≤ v3 then ((fX10_lays_ mm).bind (fun x3 => zob (zin v1 12) (if (gi x3 46 0 (zn v1)) = 0 then (some (((-1), x3))) else ((zloop (fX10_chain_L46 v1 v2 v3 x3) zF (0, 0)).bind (fun o7 => zcase o7 (fun y5 => if v3 = (-1) then (some ((y5, x3))) else (some (((-2), x3)))) (fun r6 => some r6)))))) else (some (((-1), mm)))))))
theorem wX10_chain_L46 {E : zE} {d : Nat} (hd : 5 ≤ d) {Q : Option zV → zM → Prop} {v1 : Int32} {v2 : Int32} {v3 : Int32} {mm : zM} {n : Nat} {s : (Int32 × Int32)} {o : Int32 ⊕ (Int32 × zM)} (h : zloop (fX10_chain_L46 v1 v2 v3 mm) n s = some o) (he : ∀ y : Int32, o = .inl y → V E RX10 cX10_chain 7 (some .int) d Q 103 [none, none, none, some (zI v3), some (zI y), none, none] [] mm) (hr : ∀ r : (Int32 × zM), o = .inr r → Q (some (zI r.1)) r.2) : V E RX10 cX10_chain 7 (some .int) d Q 46 [some (zK 10 0), some (zI v1), some (zI v2), some (zI v3), some (zI s.1), some (zI s.2), none] [] mm := by
  induction n generalizing s with
  | zero => exact (zloop_0 h).elim
  | succ n ih =>
    obtain ⟨o1, h1, hc1, he1⟩ := zloop_s h
    have kc : ∀ s' : (Int32 × Int32), o1 = .inl s' → V E RX10 cX10_chain 7 (some .int) d Q 46 [some (zK 10 0), some (zI v1), some (zI v2), some (zI v3), some (zI s'.1), some (zI s'.2), none] [] mm := fun s' e => ih (hc1 s' e)
    have ke : ∀ y : Int32, o1 = .inr (.inl y) → V E RX10 cX10_chain 7 (some .int) d Q 103 [none, none, none, some (zI v3), some (zI y), none, none] [] mm := fun y e => he y (he1 _ e)
    have kr : ∀ r : (Int32 × zM), o1 = .inr (.inr r) → Q (some (zI r.1)) r.2 := fun r e => hr r (he1 _ e)
    clear h hc1 he1 ih
    have h := h1
    clear h1
    unfold fX10_chain_L46 at h
    refine V_iload 48 rfl dX10_chain_46 rfl ?_
    refine V_aload_n 49 rfl 0 dX10_chain_48 rfl rfl ?_
    refine V_getr 52 rfl 46 0 dX10_chain_49 fl_X10_38 rfl rfl rfl ?_
    refine V_iload_n 53 rfl 1 dX10_chain_52 rfl rfl ?_
    obtain ⟨hi, h⟩ := zobd h
    refine V_iald 54 rfl dX10_chain_53 rfl hi ?_
    refine V_icmp_ge 57 103 rfl dX10_chain_54 (by decide) (fun c => ?_) (fun c => ?_)
    · have h := zpos c h
      exact V_w (zsub_n (zsub_n (zsub_n (zsub_s (zsub_s (zsub_n (zsub_s zsub_0))))))) (ke s.1 (zinj h))
    · have h := zneg c h
      refine V_aload_n 58 rfl 0 dX10_chain_57 rfl rfl ?_
      refine V_getr 61 rfl 45 0 dX10_chain_58 fl_X10_35 rfl rfl rfl ?_
      refine V_bipush 63 rfl (v := 12) dX10_chain_61 (by decide) ?_
      refine V_iload_n 64 rfl 1 dX10_chain_63 rfl rfl ?_
      refine V_imul 65 rfl dX10_chain_64 ?_
      refine V_iload 67 rfl dX10_chain_65 rfl ?_
      refine V_iadd 68 rfl dX10_chain_67 ?_
      obtain ⟨hi, h⟩ := zobd h
      refine V_iald 69 rfl dX10_chain_68 rfl hi ?_
      refine V_istore 71 rfl (L' := [some (zK 10 0), some (zI v1), some (zI v2), some (zI v3), some (zI s.1), some (zI s.2), some (zI (gi mm 45 0 (zn ((((12 * v1)) + s.2)))))]) dX10_chain_69 (by decide) rfl ?_
      refine V_aload_n 72 rfl 0 dX10_chain_71 rfl rfl ?_
      refine V_iload 74 rfl dX10_chain_72 rfl ?_
      refine V_iload_n 75 rfl 2 dX10_chain_74 rfl rfl ?_
      obtain ⟨x4, h1, h⟩ := zbd h
      refine V_cV 78 rfl 1 [zI (gi mm 45 0 (zn ((((12 * v1)) + s.2)))), zI v2] [] dX10_chain_75 cv_X10_276 (ctX10_kindOf (Nat.le_refl 1) h1) (Nat.le_trans (by decide) hd) rfl rfl (Nat.le_of_ble_eq_true rfl) zoki rfl ?_
      refine V_iconst 79 rfl (v := 1) dX10_chain_78 (by decide) ?_
      refine V_icmp_eq 82 85 rfl dX10_chain_79 (by decide) (fun c => ?_) (fun c => ?_)
      · have h := zpos c h
        refine V_iload 87 rfl dX10_chain_85 rfl ?_
        refine V_iload_n 88 rfl 3 dX10_chain_87 rfl rfl ?_
        refine V_icmp_ne 91 94 rfl dX10_chain_88 (by decide) (fun c => ?_) (fun c => ?_)
        · have h := zneg c h
          refine V_iinc 97 rfl (s.1 + 1) (L' := [some (zK 10 0), some (zI v1), some (zI v2), some (zI v3), some (zI (s.1 + 1)), some (zI s.2), some (zI (gi mm 45 0 (zn ((((12 * v1)) + s.2)))))]) dX10_chain_94 rfl rfl (by decide) rfl ?_
          refine V_iinc 100 rfl (s.2 + 1) (L' := [some (zK 10 0), some (zI v1), some (zI v2), some (zI v3), some (zI (s.1 + 1)), some (zI (s.2 + 1)), some (zI (gi mm 45 0 (zn ((((12 * v1)) + s.2)))))]) dX10_chain_97 rfl rfl (by decide) rfl ?_
          refine V_goto 46 dX10_chain_100 (by decide) ?_
          exact V_w (zsub_s (zsub_s (zsub_s (zsub_s (zsub_s (zsub_s (zsub_n zsub_0))))))) (kc ((s.1 + 1), (s.2 + 1)) (zinj h))
        · have h := zpos c h
          refine V_iload 93 rfl dX10_chain_91 rfl ?_
          exact V_iret dX10_chain_93 rfl (kr (((gi mm 45 0 (zn ((((12 * v1)) + s.2)))), mm)) (zinj h))
      · have h := zneg c h
        refine V_goto 97 dX10_chain_82 (by decide) ?_
        refine V_iinc 100 rfl (s.2 + 1) (L' := [some (zK 10 0), some (zI v1), some (zI v2), some (zI v3), some (zI s.1), some (zI (s.2 + 1)), some (zI (gi mm 45 0 (zn ((((12 * v1)) + s.2)))))]) dX10_chain_97 rfl rfl (by decide) rfl ?_
        refine V_goto 46 dX10_chain_100 (by decide) ?_
        exact V_w (zsub_s (zsub_s (zsub_s (zsub_s (zsub_s (zsub_s (zsub_n zsub_0))))))) (kc (s.1, (s.2 + 1)) (zinj h))
theorem wX10_chain {E : zE} {d : Nat} (hd : 5 ≤ d) {Q : Option zV → zM → Prop} {v1 : Int32} {v2 : Int32} {v3 : Int32} {mm : zM} {o : (Int32 × zM)} (h : fX10_chain v1 v2 v3 mm = some o) (hQ : ∀ r, o = r → Q (some (zI r.1)) r.2) : V E RX10 cX10_chain 7 (some .int) d Q 0 [some (zK 10 0), some (zI v1), some (zI v2), some (zI v3), none, none, none] [] mm := by
  unfold fX10_chain at h
  refine V_aload_n 1 rfl 0 dX10_chain_0 rfl rfl ?_
  refine V_iload_n 2 rfl 1 dX10_chain_1 rfl rfl ?_
  obtain ⟨x1, h1, h⟩ := zbd h
  refine V_cV 5 rfl 2 [zI v1] [] dX10_chain_2 cv_X10_258 (ctX10_isType (Nat.le_refl 2) h1) (Nat.le_trans (by decide) hd) rfl rfl (Nat.le_of_ble_eq_true rfl) zoki rfl ?_
  refine V_if_eq 8 23 rfl dX10_chain_5 (by decide) (fun c => ?_) (fun c => ?_)
  · have h := zpos c h
    refine V_iconst 24 rfl (v := (-1)) dX10_chain_23 (by decide) ?_
    exact V_iret dX10_chain_24 rfl (hQ (((-1), mm)) (zinj h))
  · have h := zneg c h
    refine V_iload_n 9 rfl 2 dX10_chain_8 rfl rfl ?_
    refine V_iconst 10 rfl (v := 0) dX10_chain_9 (by decide) ?_
    refine V_bipush 12 rfl (v := 25) dX10_chain_10 (by decide) ?_
    obtain ⟨x2, h1, h⟩ := zbd h
    refine V_cS 15 rfl 0 [zI v2, zI 0, zI 25] [] dX10_chain_12 cs_X10_88 (ctX10_in (Nat.le_refl 0) h1) (Nat.le_trans (by decide) hd) rfl rfl (Nat.le_of_ble_eq_true rfl) zoki rfl ?_
    refine V_if_eq 18 23 rfl dX10_chain_15 (by decide) (fun c => ?_) (fun c => ?_)
    · have h := zpos c h
      refine V_iconst 24 rfl (v := (-1)) dX10_chain_23 (by decide) ?_
      exact V_iret dX10_chain_24 rfl (hQ (((-1), mm)) (zinj h))
    · have h := zneg c h
      refine V_iload_n 19 rfl 3 dX10_chain_18 rfl rfl ?_
      refine V_iconst 20 rfl (v := (-1)) dX10_chain_19 (by decide) ?_
      refine V_icmp_ge 23 25 rfl dX10_chain_20 (by decide) (fun c => ?_) (fun c => ?_)
      · have h := zpos c h
        refine V_aload_n 26 rfl 0 dX10_chain_25 rfl rfl ?_
        obtain ⟨x3, h1, h⟩ := zbd h
        refine V_cV 29 rfl 4 [] [] dX10_chain_26 cv_X10_279 (ctX10_lays_ (Nat.le_refl 4) h1) (Nat.le_trans (by decide) hd) rfl rfl (Nat.le_of_ble_eq_true rfl) zokn rfl ?_
        refine V_aload_n 30 rfl 0 dX10_chain_29 rfl rfl ?_
        refine V_getr 33 rfl 46 0 dX10_chain_30 fl_X10_38 rfl rfl rfl ?_
        refine V_iload_n 34 rfl 1 dX10_chain_33 rfl rfl ?_
        obtain ⟨hi, h⟩ := zobd h
        refine V_iald 35 rfl dX10_chain_34 rfl hi ?_
        refine V_if_ne 38 40 rfl dX10_chain_35 (by decide) (fun c => ?_) (fun c => ?_)
        · have h := zneg c h
          refine V_iconst 41 rfl (v := 0) dX10_chain_40 (by decide) ?_
          refine V_istore 43 rfl (L' := [some (zK 10 0), some (zI v1), some (zI v2), some (zI v3), some (zI 0), none, none]) dX10_chain_41 (by decide) rfl ?_
          refine V_iconst 44 rfl (v := 0) dX10_chain_43 (by decide) ?_
          refine V_istore 46 rfl (L' := [some (zK 10 0), some (zI v1), some (zI v2), some (zI v3), some (zI 0), some (zI 0), none]) dX10_chain_44 (by decide) rfl ?_
          obtain ⟨o7, h1, h⟩ := zbd h
          refine wX10_chain_L46 hd h1 (fun y5 e => ?_) (fun r e => by have h := zcr_ e h; exact hQ r (zinj h))
          have h := zcl_ e h
          refine V_iload_n 104 rfl 3 dX10_chain_103 rfl rfl ?_
          refine V_iconst 105 rfl (v := (-1)) dX10_chain_104 (by decide) ?_
          refine V_icmp_ne 108 113 rfl dX10_chain_105 (by decide) (fun c => ?_) (fun c => ?_)
          · have h := zneg c h
            refine V_bipush 115 rfl (v := (-2)) dX10_chain_113 (by decide) ?_
            exact V_iret dX10_chain_115 rfl (hQ (((-2), x3)) (zinj h))
          · have h := zpos c h
            refine V_iload 110 rfl dX10_chain_108 rfl ?_
            refine V_goto 115 dX10_chain_110 (by decide) ?_
            exact V_iret dX10_chain_115 rfl (hQ ((y5, x3)) (zinj h))
        · have h := zpos c h
          refine V_iconst 39 rfl (v := (-1)) dX10_chain_38 (by decide) ?_
          exact V_iret dX10_chain_39 rfl (hQ (((-1), x3)) (zinj h))
      · have h := zneg c h
        refine V_iconst 24 rfl (v := (-1)) dX10_chain_23 (by decide) ?_
        exact V_iret dX10_chain_24 rfl (hQ (((-1), mm)) (zinj h))
theorem ctX10_chain {E : zE} {d : Nat} (hd : 5 ≤ d) {v1 : Int32} {v2 : Int32} {v3 : Int32} {mm : zM} {o : (Int32 × zM)} (h : fX10_chain v1 v2 v3 mm = some o) : zOC E yX10_chain cX10_chain 7 (some .int) d [zK 10 0, zI v1, zI v2, zI v3] mm (some (zI o.1)) o.2 :=
  zCT_of (by decide) (Nat.le_of_ble_eq_true rfl) (zk_k (zk_i (zk_i (zk_i zk_0)))) rfl (wX10_chain hd h (fun r e => ⟨by rw [e], by rw [e]⟩))
