def fX10_laysLine_L69 (v1 : Int32) (v2 : Int32) (v3 : Int32) (v4 : Int32) (s : (Int32 × zM)) : Option ((Int32 × zM) ⊕ (zM ⊕ Empty)) :=
  zob (zin v4 12) (if (gi s.2 46 0 (zn v4)) ≤ s.1 then (some (.inr (.inl s.2))) else (zob (zin ((((12 * v4)) + s.1)) 144) (zob (zin ((((12 * v3)) + s.1)) 60) (some (.inl ((s.1 + 1), (wi s.2 49 0 (zn ((((12 * v3)) + s.1))) ((gi s.2 45 0 (zn ((((12 * v4)) + s.1))))))))))))
def fX10_laysLine_L22 (v1 : Int32) (v2 : Int32) (s : (Int32 × zM)) : Option ((Int32 × zM) ⊕ (zM ⊕ zM)) :=
  if v2 ≤ s.1 then (some (.inr (.inl s.2))) else ((fX10_parentOf v1 s.1 s.2).bind (fun x2 => zob (zin x2 12) (if (gi s.2 46 0 (zn x2)) = 0 then (some (.inr (.inr s.2))) else (zob (zin x2 12) (zob (zin s.1 5) (zob (zin s.1 5) ((zloop (fX10_laysLine_L69 v1 v2 s.1 x2) zF (0, (wi ((wi s.2 50 0 (zn s.1) ((gi s.2 46 0 (zn x2))))) 51 0 (zn s.1) 0))).bind (fun o5 => zcase o5 (fun y3 => zob (zin ((((12 * v2)) + s.1)) 60) (some (.inl ((s.1 + 1), (wi y3 49 0 (zn ((((12 * v2)) + s.1))) x2))))) (fun r4 => r4.elim)))))))))
def fX10_laysLine_J240 (v1 : Int32) (v2 : Int32) (v3 : Int32) (v4 : Int32) (v5 : Int32) (s0 : Int32) (s1 : Int32) (s2 : Int32) (mm : zM) : Option ((Int32 × zM) ⊕ (zM ⊕ Empty)) :=
  (fX10_truth s0 mm).bind (fun x11 => zob (zin s2 5) (some (.inl ((v5 + 1), (wi mm 51 0 (zn s2) ((s1 + x11)))))))
def fX10_laysLine_L210 (v1 : Int32) (v2 : Int32) (v3 : Int32) (v4 : Int32) (s : (Int32 × zM)) : Option ((Int32 × zM) ⊕ (zM ⊕ Empty)) :=
  if v2 < s.1 then (some (.inr (.inl s.2))) else (zob (zin s.1 5) ((fX10_headOf s.1 s.2).bind (fun x10 => if x10 = v4 then (fX10_laysLine_J240 v1 v2 v3 v4 s.1 1 ((gi s.2 51 0 (zn s.1))) s.1 s.2) else (fX10_laysLine_J240 v1 v2 v3 v4 s.1 0 ((gi s.2 51 0 (zn s.1))) s.1 s.2))))
def fX10_laysLine_L157 (v1 : Int32) (v2 : Int32) (s : (Int32 × zM)) : Option ((Int32 × zM) ⊕ ((Int32 × zM) ⊕ zM)) :=
  (fX10_isLeft ((v2 + 1)) s.2).bind (fun x8 => if x8 = 0 then (some (.inr (.inl (s.1, s.2)))) else ((fX10_nextHead ((v2 + 1)) s.2).bind (fun x9 => if x9 = (-1) then ((fX10_laysRing v1 ((v2 + 1)) s.2).bind (fun x15 => some (.inr (.inr x15)))) else (zob (zin ((((12 * v1)) + s.1)) 144) ((zloop (fX10_laysLine_L210 v1 v2 ((s.1 + 1)) x9) zF (0, (wi s.2 45 0 (zn ((((12 * v1)) + s.1))) x9))).bind (fun o14 => zcase o14 (fun y12 => some (.inl ((s.1 + 1), y12))) (fun r13 => r13.elim)))))))
def fX10_laysLine (v1 : Int32) (mm : zM) : Option zM :=
  zob (zin v1 12) (zob (zin v1 12) ((fX10_parents v1 ((wi ((wi mm 46 0 (zn v1) 0)) 48 0 (zn v1) 0))).bind (fun x1 => (zloop (fX10_laysLine_L22 v1 x1) zF (0, (wi ((wi mm 46 0 (zn v1) 0)) 48 0 (zn v1) 0))).bind (fun o19 => zcase o19 (fun y6 => zob (zin x1 5) (zob (zin x1 5) (zob (zin ((12 * v1)) 144) ((zloop (fX10_laysLine_L157 v1 x1) zF (1, (wi ((wi ((wi y6 50 0 (zn x1) x1)) 51 0 (zn x1) 0)) 45 0 (zn ((12 * v1))) v1))).bind (fun o18 => zcase o18 (fun y16 => zob (zin v1 12) (some ((wi y16.2 46 0 (zn v1) y16.1)))) (fun r17 => some r17)))))) (fun r7 => some r7)))))
theorem wX10_laysLine_L69 {E : zE} {d : Nat} (hd : 3 ≤ d) {Q : Option zV → zM → Prop} {v1 : Int32} {v2 : Int32} {v3 : Int32} {v4 : Int32} {n : Nat} {s : (Int32 × zM)} {o : zM ⊕ Empty} (h : zloop (fX10_laysLine_L69 v1 v2 v3 v4) n s = some o) (he : ∀ y : zM, o = .inl y → V E RX10 cX10_laysLine 6 none d Q 112 [some (zK 10 0), some (zI v1), some (zI v2), some (zI v3), some (zI v4), none] [] y) : V E RX10 cX10_laysLine 6 none d Q 69 [some (zK 10 0), some (zI v1), some (zI v2), some (zI v3), some (zI v4), some (zI s.1)] [] s.2 := by
  induction n generalizing s with
  | zero => exact (zloop_0 h).elim
  | succ n ih =>
    obtain ⟨o1, h1, hc1, he1⟩ := zloop_s h
    have kc : ∀ s' : (Int32 × zM), o1 = .inl s' → V E RX10 cX10_laysLine 6 none d Q 69 [some (zK 10 0), some (zI v1), some (zI v2), some (zI v3), some (zI v4), some (zI s'.1)] [] s'.2 := fun s' e => ih (hc1 s' e)
    have ke : ∀ y : zM, o1 = .inr (.inl y) → V E RX10 cX10_laysLine 6 none d Q 112 [some (zK 10 0), some (zI v1), some (zI v2), some (zI v3), some (zI v4), none] [] y := fun y e => he y (he1 _ e)
    clear h hc1 he1 ih
    have h := h1
    clear h1
    unfold fX10_laysLine_L69 at h
    refine V_iload 71 rfl dX10_laysLine_69 rfl ?_
    refine V_aload_n 72 rfl 0 dX10_laysLine_71 rfl rfl ?_
    refine V_getr 75 rfl 46 0 dX10_laysLine_72 fl_X10_38 rfl rfl rfl ?_
    refine V_iload 77 rfl dX10_laysLine_75 rfl ?_
    obtain ⟨hi, h⟩ := zobd h
    refine V_iald 78 rfl dX10_laysLine_77 rfl hi ?_
    refine V_icmp_ge 81 112 rfl dX10_laysLine_78 (by decide) (fun c => ?_) (fun c => ?_)
    · have h := zpos c h
      exact V_w (zsub_s (zsub_s (zsub_s (zsub_s (zsub_s (zsub_n zsub_0)))))) (ke s.2 (zinj h))
    · have h := zneg c h
      refine V_aload_n 82 rfl 0 dX10_laysLine_81 rfl rfl ?_
      refine V_getr 85 rfl 49 0 dX10_laysLine_82 fl_X10_47 rfl rfl rfl ?_
      refine V_bipush 87 rfl (v := 12) dX10_laysLine_85 (by decide) ?_
      refine V_iload_n 88 rfl 3 dX10_laysLine_87 rfl rfl ?_
      refine V_imul 89 rfl dX10_laysLine_88 ?_
      refine V_iload 91 rfl dX10_laysLine_89 rfl ?_
      refine V_iadd 92 rfl dX10_laysLine_91 ?_
      refine V_aload_n 93 rfl 0 dX10_laysLine_92 rfl rfl ?_
      refine V_getr 96 rfl 45 0 dX10_laysLine_93 fl_X10_35 rfl rfl rfl ?_
      refine V_bipush 98 rfl (v := 12) dX10_laysLine_96 (by decide) ?_
      refine V_iload 100 rfl dX10_laysLine_98 rfl ?_
      refine V_imul 101 rfl dX10_laysLine_100 ?_
      refine V_iload 103 rfl dX10_laysLine_101 rfl ?_
      refine V_iadd 104 rfl dX10_laysLine_103 ?_
      obtain ⟨hi, h⟩ := zobd h
      refine V_iald 105 rfl dX10_laysLine_104 rfl hi ?_
      obtain ⟨hi, h⟩ := zobd h
      refine V_iast 106 rfl dX10_laysLine_105 rfl hi ?_
      refine V_iinc 109 rfl (s.1 + 1) (L' := [some (zK 10 0), some (zI v1), some (zI v2), some (zI v3), some (zI v4), some (zI (s.1 + 1))]) dX10_laysLine_106 rfl rfl (by decide) rfl ?_
      refine V_goto 69 dX10_laysLine_109 (by decide) ?_
      exact kc ((s.1 + 1), (wi s.2 49 0 (zn ((((12 * v3)) + s.1))) ((gi s.2 45 0 (zn ((((12 * v4)) + s.1))))))) (zinj h)
theorem wX10_laysLine_L22 {E : zE} {d : Nat} (hd : 3 ≤ d) {Q : Option zV → zM → Prop} {v1 : Int32} {v2 : Int32} {n : Nat} {s : (Int32 × zM)} {o : zM ⊕ zM} (h : zloop (fX10_laysLine_L22 v1 v2) n s = some o) (he : ∀ y : zM, o = .inl y → V E RX10 cX10_laysLine 6 none d Q 131 [some (zK 10 0), some (zI v1), some (zI v2), none, none, none] [] y) (hr : ∀ r : zM, o = .inr r → Q none r) : V E RX10 cX10_laysLine 6 none d Q 22 [some (zK 10 0), some (zI v1), some (zI v2), some (zI s.1), none, none] [] s.2 := by
  induction n generalizing s with
  | zero => exact (zloop_0 h).elim
  | succ n ih =>
    obtain ⟨o1, h1, hc1, he1⟩ := zloop_s h
    have kc : ∀ s' : (Int32 × zM), o1 = .inl s' → V E RX10 cX10_laysLine 6 none d Q 22 [some (zK 10 0), some (zI v1), some (zI v2), some (zI s'.1), none, none] [] s'.2 := fun s' e => ih (hc1 s' e)
    have ke : ∀ y : zM, o1 = .inr (.inl y) → V E RX10 cX10_laysLine 6 none d Q 131 [some (zK 10 0), some (zI v1), some (zI v2), none, none, none] [] y := fun y e => he y (he1 _ e)
    have kr : ∀ r : zM, o1 = .inr (.inr r) → Q none r := fun r e => hr r (he1 _ e)
    clear h hc1 he1 ih
    have h := h1
    clear h1
    unfold fX10_laysLine_L22 at h
    refine V_iload_n 23 rfl 3 dX10_laysLine_22 rfl rfl ?_
    refine V_iload_n 24 rfl 2 dX10_laysLine_23 rfl rfl ?_
    refine V_icmp_ge 27 131 rfl dX10_laysLine_24 (by decide) (fun c => ?_) (fun c => ?_)
    · have h := zpos c h
      exact V_w (zsub_s (zsub_s (zsub_s (zsub_n (zsub_s (zsub_s zsub_0)))))) (ke s.2 (zinj h))
    · have h := zneg c h
      refine V_aload_n 28 rfl 0 dX10_laysLine_27 rfl rfl ?_
      refine V_iload_n 29 rfl 1 dX10_laysLine_28 rfl rfl ?_
      refine V_iload_n 30 rfl 3 dX10_laysLine_29 rfl rfl ?_
      obtain ⟨x2, h1, h⟩ := zbd h
      refine V_cV 33 rfl 0 [zI v1, zI s.1] [] dX10_laysLine_30 cv_X10_240 (ctX10_parentOf (Nat.le_refl 0) h1) (Nat.le_trans (by decide) hd) rfl rfl (Nat.le_of_ble_eq_true rfl) zoki rfl ?_
      refine V_istore 35 rfl (L' := [some (zK 10 0), some (zI v1), some (zI v2), some (zI s.1), some (zI x2), none]) dX10_laysLine_33 (by decide) rfl ?_
      refine V_aload_n 36 rfl 0 dX10_laysLine_35 rfl rfl ?_
      refine V_getr 39 rfl 46 0 dX10_laysLine_36 fl_X10_38 rfl rfl rfl ?_
      refine V_iload 41 rfl dX10_laysLine_39 rfl ?_
      obtain ⟨hi, h⟩ := zobd h
      refine V_iald 42 rfl dX10_laysLine_41 rfl hi ?_
      refine V_if_ne 45 46 rfl dX10_laysLine_42 (by decide) (fun c => ?_) (fun c => ?_)
      · have h := zneg c h
        refine V_aload_n 47 rfl 0 dX10_laysLine_46 rfl rfl ?_
        refine V_getr 50 rfl 50 0 dX10_laysLine_47 fl_X10_50 rfl rfl rfl ?_
        refine V_iload_n 51 rfl 3 dX10_laysLine_50 rfl rfl ?_
        refine V_aload_n 52 rfl 0 dX10_laysLine_51 rfl rfl ?_
        refine V_getr 55 rfl 46 0 dX10_laysLine_52 fl_X10_38 rfl rfl rfl ?_
        refine V_iload 57 rfl dX10_laysLine_55 rfl ?_
        obtain ⟨hi, h⟩ := zobd h
        refine V_iald 58 rfl dX10_laysLine_57 rfl hi ?_
        obtain ⟨hi, h⟩ := zobd h
        refine V_iast 59 rfl dX10_laysLine_58 rfl hi ?_
        refine V_aload_n 60 rfl 0 dX10_laysLine_59 rfl rfl ?_
        refine V_getr 63 rfl 51 0 dX10_laysLine_60 fl_X10_53 rfl rfl rfl ?_
        refine V_iload_n 64 rfl 3 dX10_laysLine_63 rfl rfl ?_
        refine V_iconst 65 rfl (v := 0) dX10_laysLine_64 (by decide) ?_
        obtain ⟨hi, h⟩ := zobd h
        refine V_iast 66 rfl dX10_laysLine_65 rfl hi ?_
        refine V_iconst 67 rfl (v := 0) dX10_laysLine_66 (by decide) ?_
        refine V_istore 69 rfl (L' := [some (zK 10 0), some (zI v1), some (zI v2), some (zI s.1), some (zI x2), some (zI 0)]) dX10_laysLine_67 (by decide) rfl ?_
        obtain ⟨o5, h1, h⟩ := zbd h
        refine wX10_laysLine_L69 hd h1 (fun y3 e => ?_)
        have h := zcl_ e h
        refine V_aload_n 113 rfl 0 dX10_laysLine_112 rfl rfl ?_
        refine V_getr 116 rfl 49 0 dX10_laysLine_113 fl_X10_47 rfl rfl rfl ?_
        refine V_bipush 118 rfl (v := 12) dX10_laysLine_116 (by decide) ?_
        refine V_iload_n 119 rfl 2 dX10_laysLine_118 rfl rfl ?_
        refine V_imul 120 rfl dX10_laysLine_119 ?_
        refine V_iload_n 121 rfl 3 dX10_laysLine_120 rfl rfl ?_
        refine V_iadd 122 rfl dX10_laysLine_121 ?_
        refine V_iload 124 rfl dX10_laysLine_122 rfl ?_
        obtain ⟨hi, h⟩ := zobd h
        refine V_iast 125 rfl dX10_laysLine_124 rfl hi ?_
        refine V_iinc 128 rfl (s.1 + 1) (L' := [some (zK 10 0), some (zI v1), some (zI v2), some (zI (s.1 + 1)), some (zI x2), none]) dX10_laysLine_125 rfl rfl (by decide) rfl ?_
        refine V_goto 22 dX10_laysLine_128 (by decide) ?_
        exact V_w (zsub_s (zsub_s (zsub_s (zsub_s (zsub_n (zsub_s zsub_0)))))) (kc ((s.1 + 1), (wi y3 49 0 (zn ((((12 * v2)) + s.1))) x2)) (zinj h))
      · have h := zpos c h
        exact V_vret dX10_laysLine_45 rfl (kr s.2 (zinj h))
theorem wX10_laysLine_J240 {E : zE} {d : Nat} (hd : 3 ≤ d) {Q : Option zV → zM → Prop} {v1 : Int32} {v2 : Int32} {v3 : Int32} {v4 : Int32} {v5 : Int32} {s0 : Int32} {s1 : Int32} {s2 : Int32} {mm : zM} {o : ((Int32 × zM) ⊕ (zM ⊕ Empty))} (h : fX10_laysLine_J240 v1 v2 v3 v4 v5 s0 s1 s2 mm = some o) (kc : ∀ s' : (Int32 × zM), o = .inl s' → V E RX10 cX10_laysLine 6 none d Q 210 [some (zK 10 0), some (zI v1), some (zI v2), some (zI v3), some (zI v4), some (zI s'.1)] [] s'.2) (ke : ∀ y : zM, o = .inr (.inl y) → V E RX10 cX10_laysLine 6 none d Q 251 [some (zK 10 0), some (zI v1), some (zI v2), some (zI v3), none, none] [] y) : V E RX10 cX10_laysLine 6 none d Q 240 [some (zK 10 0), some (zI v1), some (zI v2), some (zI v3), some (zI v4), some (zI v5)] [zI s0, zI s1, zI s2, zK 51 0] mm := by
  unfold fX10_laysLine_J240 at h
  obtain ⟨x11, h1, h⟩ := zbd h
  refine V_cS 243 rfl 0 [zI s0] [zI s1, zI s2, zK 51 0] dX10_laysLine_240 cs_X10_104 (ctX10_truth (Nat.le_refl 0) h1) (Nat.le_trans (by decide) hd) rfl rfl (Nat.le_of_ble_eq_true rfl) zoki rfl ?_
  refine V_iadd 244 rfl dX10_laysLine_243 ?_
  obtain ⟨hi, h⟩ := zobd h
  refine V_iast 245 rfl dX10_laysLine_244 rfl hi ?_
  refine V_iinc 248 rfl (v5 + 1) (L' := [some (zK 10 0), some (zI v1), some (zI v2), some (zI v3), some (zI v4), some (zI (v5 + 1))]) dX10_laysLine_245 rfl rfl (by decide) rfl ?_
  refine V_goto 210 dX10_laysLine_248 (by decide) ?_
  exact kc ((v5 + 1), (wi mm 51 0 (zn s2) ((s1 + x11)))) (zinj h)
theorem wX10_laysLine_L210 {E : zE} {d : Nat} (hd : 3 ≤ d) {Q : Option zV → zM → Prop} {v1 : Int32} {v2 : Int32} {v3 : Int32} {v4 : Int32} {n : Nat} {s : (Int32 × zM)} {o : zM ⊕ Empty} (h : zloop (fX10_laysLine_L210 v1 v2 v3 v4) n s = some o) (he : ∀ y : zM, o = .inl y → V E RX10 cX10_laysLine 6 none d Q 251 [some (zK 10 0), some (zI v1), some (zI v2), some (zI v3), none, none] [] y) : V E RX10 cX10_laysLine 6 none d Q 210 [some (zK 10 0), some (zI v1), some (zI v2), some (zI v3), some (zI v4), some (zI s.1)] [] s.2 := by
  induction n generalizing s with
  | zero => exact (zloop_0 h).elim
  | succ n ih =>
    obtain ⟨o1, h1, hc1, he1⟩ := zloop_s h
    have kc : ∀ s' : (Int32 × zM), o1 = .inl s' → V E RX10 cX10_laysLine 6 none d Q 210 [some (zK 10 0), some (zI v1), some (zI v2), some (zI v3), some (zI v4), some (zI s'.1)] [] s'.2 := fun s' e => ih (hc1 s' e)
    have ke : ∀ y : zM, o1 = .inr (.inl y) → V E RX10 cX10_laysLine 6 none d Q 251 [some (zK 10 0), some (zI v1), some (zI v2), some (zI v3), none, none] [] y := fun y e => he y (he1 _ e)
    clear h hc1 he1 ih
    have h := h1
    clear h1
    unfold fX10_laysLine_L210 at h
    refine V_iload 212 rfl dX10_laysLine_210 rfl ?_
    refine V_iload_n 213 rfl 2 dX10_laysLine_212 rfl rfl ?_
    refine V_icmp_gt 216 251 rfl dX10_laysLine_213 (by decide) (fun c => ?_) (fun c => ?_)
    · have h := zpos c h
      exact V_w (zsub_s (zsub_s (zsub_s (zsub_s (zsub_n (zsub_n zsub_0)))))) (ke s.2 (zinj h))
    · have h := zneg c h
      refine V_aload_n 217 rfl 0 dX10_laysLine_216 rfl rfl ?_
      refine V_getr 220 rfl 51 0 dX10_laysLine_217 fl_X10_53 rfl rfl rfl ?_
      refine V_iload 222 rfl dX10_laysLine_220 rfl ?_
      refine V_dup2 223 rfl dX10_laysLine_222 rfl rfl ?_
      obtain ⟨hi, h⟩ := zobd h
      refine V_iald 224 rfl dX10_laysLine_223 rfl hi ?_
      refine V_aload_n 225 rfl 0 dX10_laysLine_224 rfl rfl ?_
      refine V_iload 227 rfl dX10_laysLine_225 rfl ?_
      obtain ⟨x10, h1, h⟩ := zbd h
      refine V_cV 230 rfl 0 [zI s.1] [zI (gi s.2 51 0 (zn s.1)), zI s.1, zK 51 0] dX10_laysLine_227 cv_X10_231 (ctX10_headOf (Nat.le_refl 0) h1) (Nat.le_trans (by decide) hd) rfl rfl (Nat.le_of_ble_eq_true rfl) zoki rfl ?_
      refine V_iload 232 rfl dX10_laysLine_230 rfl ?_
      refine V_icmp_ne 235 239 rfl dX10_laysLine_232 (by decide) (fun c => ?_) (fun c => ?_)
      · have h := zneg c h
        refine V_iconst 240 rfl (v := 0) dX10_laysLine_239 (by decide) ?_
        exact wX10_laysLine_J240 hd h kc ke
      · have h := zpos c h
        refine V_iconst 236 rfl (v := 1) dX10_laysLine_235 (by decide) ?_
        refine V_goto 240 dX10_laysLine_236 (by decide) ?_
        exact wX10_laysLine_J240 hd h kc ke
theorem wX10_laysLine_L157 {E : zE} {d : Nat} (hd : 3 ≤ d) {Q : Option zV → zM → Prop} {v1 : Int32} {v2 : Int32} {n : Nat} {s : (Int32 × zM)} {o : (Int32 × zM) ⊕ zM} (h : zloop (fX10_laysLine_L157 v1 v2) n s = some o) (he : ∀ y : (Int32 × zM), o = .inl y → V E RX10 cX10_laysLine 6 none d Q 254 [some (zK 10 0), some (zI v1), none, some (zI y.1), none, none] [] y.2) (hr : ∀ r : zM, o = .inr r → Q none r) : V E RX10 cX10_laysLine 6 none d Q 157 [some (zK 10 0), some (zI v1), some (zI v2), some (zI s.1), none, none] [] s.2 := by
  induction n generalizing s with
  | zero => exact (zloop_0 h).elim
  | succ n ih =>
    obtain ⟨o1, h1, hc1, he1⟩ := zloop_s h
    have kc : ∀ s' : (Int32 × zM), o1 = .inl s' → V E RX10 cX10_laysLine 6 none d Q 157 [some (zK 10 0), some (zI v1), some (zI v2), some (zI s'.1), none, none] [] s'.2 := fun s' e => ih (hc1 s' e)
    have ke : ∀ y : (Int32 × zM), o1 = .inr (.inl y) → V E RX10 cX10_laysLine 6 none d Q 254 [some (zK 10 0), some (zI v1), none, some (zI y.1), none, none] [] y.2 := fun y e => he y (he1 _ e)
    have kr : ∀ r : zM, o1 = .inr (.inr r) → Q none r := fun r e => hr r (he1 _ e)
    clear h hc1 he1 ih
    have h := h1
    clear h1
    unfold fX10_laysLine_L157 at h
    refine V_aload_n 158 rfl 0 dX10_laysLine_157 rfl rfl ?_
    refine V_iload_n 159 rfl 2 dX10_laysLine_158 rfl rfl ?_
    refine V_iconst 160 rfl (v := 1) dX10_laysLine_159 (by decide) ?_
    refine V_iadd 161 rfl dX10_laysLine_160 ?_
    obtain ⟨x8, h1, h⟩ := zbd h
    refine V_cV 164 rfl 1 [zI (v2 + 1)] [] dX10_laysLine_161 cv_X10_243 (ctX10_isLeft (Nat.le_refl 1) h1) (Nat.le_trans (by decide) hd) rfl rfl (Nat.le_of_ble_eq_true rfl) zoki rfl ?_
    refine V_if_eq 167 254 rfl dX10_laysLine_164 (by decide) (fun c => ?_) (fun c => ?_)
    · have h := zpos c h
      exact V_w (zsub_s (zsub_s (zsub_n (zsub_s (zsub_s (zsub_s zsub_0)))))) (ke (s.1, s.2) (zinj h))
    · have h := zneg c h
      refine V_aload_n 168 rfl 0 dX10_laysLine_167 rfl rfl ?_
      refine V_iload_n 169 rfl 2 dX10_laysLine_168 rfl rfl ?_
      refine V_iconst 170 rfl (v := 1) dX10_laysLine_169 (by decide) ?_
      refine V_iadd 171 rfl dX10_laysLine_170 ?_
      obtain ⟨x9, h1, h⟩ := zbd h
      refine V_cV 174 rfl 2 [zI (v2 + 1)] [] dX10_laysLine_171 cv_X10_246 (ctX10_nextHead (Nat.le_refl 2) h1) (Nat.le_trans (by decide) hd) rfl rfl (Nat.le_of_ble_eq_true rfl) zoki rfl ?_
      refine V_istore 176 rfl (L' := [some (zK 10 0), some (zI v1), some (zI v2), some (zI s.1), some (zI x9), none]) dX10_laysLine_174 (by decide) rfl ?_
      refine V_iload 178 rfl dX10_laysLine_176 rfl ?_
      refine V_iconst 179 rfl (v := (-1)) dX10_laysLine_178 (by decide) ?_
      refine V_icmp_ne 182 191 rfl dX10_laysLine_179 (by decide) (fun c => ?_) (fun c => ?_)
      · have h := zneg c h
        refine V_aload_n 192 rfl 0 dX10_laysLine_191 rfl rfl ?_
        refine V_getr 195 rfl 45 0 dX10_laysLine_192 fl_X10_35 rfl rfl rfl ?_
        refine V_bipush 197 rfl (v := 12) dX10_laysLine_195 (by decide) ?_
        refine V_iload_n 198 rfl 1 dX10_laysLine_197 rfl rfl ?_
        refine V_imul 199 rfl dX10_laysLine_198 ?_
        refine V_iload_n 200 rfl 3 dX10_laysLine_199 rfl rfl ?_
        refine V_iadd 201 rfl dX10_laysLine_200 ?_
        refine V_iload 203 rfl dX10_laysLine_201 rfl ?_
        obtain ⟨hi, h⟩ := zobd h
        refine V_iast 204 rfl dX10_laysLine_203 rfl hi ?_
        refine V_iinc 207 rfl (s.1 + 1) (L' := [some (zK 10 0), some (zI v1), some (zI v2), some (zI (s.1 + 1)), some (zI x9), none]) dX10_laysLine_204 rfl rfl (by decide) rfl ?_
        refine V_iconst 208 rfl (v := 0) dX10_laysLine_207 (by decide) ?_
        refine V_istore 210 rfl (L' := [some (zK 10 0), some (zI v1), some (zI v2), some (zI (s.1 + 1)), some (zI x9), some (zI 0)]) dX10_laysLine_208 (by decide) rfl ?_
        obtain ⟨o14, h1, h⟩ := zbd h
        refine wX10_laysLine_L210 hd h1 (fun y12 e => ?_)
        have h := zcl_ e h
        refine V_goto 157 dX10_laysLine_251 (by decide) ?_
        exact kc ((s.1 + 1), y12) (zinj h)
      · have h := zpos c h
        refine V_aload_n 183 rfl 0 dX10_laysLine_182 rfl rfl ?_
        refine V_iload_n 184 rfl 1 dX10_laysLine_183 rfl rfl ?_
        refine V_iload_n 185 rfl 2 dX10_laysLine_184 rfl rfl ?_
        refine V_iconst 186 rfl (v := 1) dX10_laysLine_185 (by decide) ?_
        refine V_iadd 187 rfl dX10_laysLine_186 ?_
        obtain ⟨x15, h1, h⟩ := zbd h
        refine V_cV 190 rfl 2 [zI v1, zI (v2 + 1)] [] dX10_laysLine_187 cv_X10_249 (ctX10_laysRing (Nat.le_refl 2) h1) (Nat.le_trans (by decide) hd) rfl rfl (Nat.le_of_ble_eq_true rfl) zokn rfl ?_
        exact V_vret dX10_laysLine_190 rfl (kr x15 (zinj h))
theorem wX10_laysLine {E : zE} {d : Nat} (hd : 3 ≤ d) {Q : Option zV → zM → Prop} {v1 : Int32} {mm : zM} {o : zM} (h : fX10_laysLine v1 mm = some o) (hQ : ∀ r, o = r → Q none r) : V E RX10 cX10_laysLine 6 none d Q 0 [some (zK 10 0), some (zI v1), none, none, none, none] [] mm := by
  unfold fX10_laysLine at h
  refine V_aload_n 1 rfl 0 dX10_laysLine_0 rfl rfl ?_
  refine V_getr 4 rfl 46 0 dX10_laysLine_1 fl_X10_38 rfl rfl rfl ?_
  refine V_iload_n 5 rfl 1 dX10_laysLine_4 rfl rfl ?_
  refine V_iconst 6 rfl (v := 0) dX10_laysLine_5 (by decide) ?_
  obtain ⟨hi, h⟩ := zobd h
  refine V_iast 7 rfl dX10_laysLine_6 rfl hi ?_
  refine V_aload_n 8 rfl 0 dX10_laysLine_7 rfl rfl ?_
  refine V_getr 11 rfl 48 0 dX10_laysLine_8 fl_X10_44 rfl rfl rfl ?_
  refine V_iload_n 12 rfl 1 dX10_laysLine_11 rfl rfl ?_
  refine V_iconst 13 rfl (v := 0) dX10_laysLine_12 (by decide) ?_
  obtain ⟨hi, h⟩ := zobd h
  refine V_iast 14 rfl dX10_laysLine_13 rfl hi ?_
  refine V_aload_n 15 rfl 0 dX10_laysLine_14 rfl rfl ?_
  refine V_iload_n 16 rfl 1 dX10_laysLine_15 rfl rfl ?_
  obtain ⟨x1, h1, h⟩ := zbd h
  refine V_cV 19 rfl 0 [zI v1] [] dX10_laysLine_16 cv_X10_237 (ctX10_parents (Nat.le_refl 0) h1) (Nat.le_trans (by decide) hd) rfl rfl (Nat.le_of_ble_eq_true rfl) zoki rfl ?_
  refine V_istore_n 20 rfl 2 (L' := [some (zK 10 0), some (zI v1), some (zI x1), none, none, none]) dX10_laysLine_19 rfl (by decide) rfl ?_
  refine V_iconst 21 rfl (v := 0) dX10_laysLine_20 (by decide) ?_
  refine V_istore_n 22 rfl 3 (L' := [some (zK 10 0), some (zI v1), some (zI x1), some (zI 0), none, none]) dX10_laysLine_21 rfl (by decide) rfl ?_
  obtain ⟨o19, h1, h⟩ := zbd h
  refine wX10_laysLine_L22 hd h1 (fun y6 e => ?_) (fun r e => by have h := zcr_ e h; exact hQ r (zinj h))
  have h := zcl_ e h
  refine V_aload_n 132 rfl 0 dX10_laysLine_131 rfl rfl ?_
  refine V_getr 135 rfl 50 0 dX10_laysLine_132 fl_X10_50 rfl rfl rfl ?_
  refine V_iload_n 136 rfl 2 dX10_laysLine_135 rfl rfl ?_
  refine V_iload_n 137 rfl 2 dX10_laysLine_136 rfl rfl ?_
  obtain ⟨hi, h⟩ := zobd h
  refine V_iast 138 rfl dX10_laysLine_137 rfl hi ?_
  refine V_aload_n 139 rfl 0 dX10_laysLine_138 rfl rfl ?_
  refine V_getr 142 rfl 51 0 dX10_laysLine_139 fl_X10_53 rfl rfl rfl ?_
  refine V_iload_n 143 rfl 2 dX10_laysLine_142 rfl rfl ?_
  refine V_iconst 144 rfl (v := 0) dX10_laysLine_143 (by decide) ?_
  obtain ⟨hi, h⟩ := zobd h
  refine V_iast 145 rfl dX10_laysLine_144 rfl hi ?_
  refine V_iconst 146 rfl (v := 1) dX10_laysLine_145 (by decide) ?_
  refine V_istore_n 147 rfl 3 (L' := [some (zK 10 0), some (zI v1), some (zI x1), some (zI 1), none, none]) dX10_laysLine_146 rfl (by decide) rfl ?_
  refine V_aload_n 148 rfl 0 dX10_laysLine_147 rfl rfl ?_
  refine V_getr 151 rfl 45 0 dX10_laysLine_148 fl_X10_35 rfl rfl rfl ?_
  refine V_bipush 153 rfl (v := 12) dX10_laysLine_151 (by decide) ?_
  refine V_iload_n 154 rfl 1 dX10_laysLine_153 rfl rfl ?_
  refine V_imul 155 rfl dX10_laysLine_154 ?_
  refine V_iload_n 156 rfl 1 dX10_laysLine_155 rfl rfl ?_
  obtain ⟨hi, h⟩ := zobd h
  refine V_iast 157 rfl dX10_laysLine_156 rfl hi ?_
  obtain ⟨o18, h1, h⟩ := zbd h
  refine wX10_laysLine_L157 hd h1 (fun y16 e => ?_) (fun r e => by have h := zcr_ e h; exact hQ r (zinj h))
  have h := zcl_ e h
  refine V_aload_n 255 rfl 0 dX10_laysLine_254 rfl rfl ?_
  refine V_getr 258 rfl 46 0 dX10_laysLine_255 fl_X10_38 rfl rfl rfl ?_
  refine V_iload_n 259 rfl 1 dX10_laysLine_258 rfl rfl ?_
  refine V_iload_n 260 rfl 3 dX10_laysLine_259 rfl rfl ?_
  obtain ⟨hi, h⟩ := zobd h
  refine V_iast 261 rfl dX10_laysLine_260 rfl hi ?_
  exact V_vret dX10_laysLine_261 rfl (hQ ((wi y16.2 46 0 (zn v1) y16.1)) (zinj h))
theorem ctX10_laysLine {E : zE} {d : Nat} (hd : 3 ≤ d) {v1 : Int32} {mm : zM} {o : zM} (h : fX10_laysLine v1 mm = some o) : zOC E yX10_laysLine cX10_laysLine 6 none d [zK 10 0, zI v1] mm none o :=
  zCT_of (by decide) (Nat.le_of_ble_eq_true rfl) (zk_k (zk_i zk_0)) rfl (wX10_laysLine hd h (fun r e => ⟨rfl, by rw [e]⟩))
def fX10_lays__L2 (s : (Int32 × zM)) : Option ((Int32 × zM) ⊕ (zM ⊕ Empty)) :=
  if (gi s.2 38 0 (zn 1356)) ≤ s.1 then (some (.inr (.inl s.2))) else ((fX10_laysFlat s.1 s.2).bind (fun x1 => (fX10_isTrait s.1 x1).bind (fun x2 => if x2 = 0 then ((fX10_laysLine s.1 x1).bind (fun x3 => some (.inl ((s.1 + 1), x3)))) else (zob (zin s.1 12) (zob (zin s.1 12) (some (.inl ((s.1 + 1), (wi ((wi x1 46 0 (zn s.1) 0)) 48 0 (zn s.1) 0)))))))))
def fX10_lays_ (mm : zM) : Option zM :=
  (zloop (fX10_lays__L2) zF (0, mm)).bind (fun o6 => zcase o6 (fun y4 => some y4) (fun r5 => r5.elim))
theorem wX10_lays__L2 {E : zE} {d : Nat} (hd : 4 ≤ d) {Q : Option zV → zM → Prop} {n : Nat} {s : (Int32 × zM)} {o : zM ⊕ Empty} (h : zloop (fX10_lays__L2) n s = some o) (he : ∀ y : zM, o = .inl y → V E RX10 cX10_lays_ 2 none d Q 55 [none, none] [] y) : V E RX10 cX10_lays_ 2 none d Q 2 [some (zK 10 0), some (zI s.1)] [] s.2 := by
  induction n generalizing s with
  | zero => exact (zloop_0 h).elim
  | succ n ih =>
    obtain ⟨o1, h1, hc1, he1⟩ := zloop_s h
    have kc : ∀ s' : (Int32 × zM), o1 = .inl s' → V E RX10 cX10_lays_ 2 none d Q 2 [some (zK 10 0), some (zI s'.1)] [] s'.2 := fun s' e => ih (hc1 s' e)
    have ke : ∀ y : zM, o1 = .inr (.inl y) → V E RX10 cX10_lays_ 2 none d Q 55 [none, none] [] y := fun y e => he y (he1 _ e)
    clear h hc1 he1 ih
    have h := h1
    clear h1
    unfold fX10_lays__L2 at h
    refine V_iload_n 3 rfl 1 dX10_lays__2 rfl rfl ?_
    refine V_aload_n 4 rfl 0 dX10_lays__3 rfl rfl ?_
    refine V_getr 7 rfl 38 0 dX10_lays__4 fl_X10_11 rfl rfl rfl ?_
    refine V_sipush 10 rfl (v := 1356) dX10_lays__7 (by decide) ?_
    refine V_iald 11 rfl dX10_lays__10 rfl (by decide) ?_
    refine V_icmp_ge 14 55 rfl dX10_lays__11 (by decide) (fun c => ?_) (fun c => ?_)
    · have h := zpos c h
      exact V_w (zsub_n (zsub_n zsub_0)) (ke s.2 (zinj h))
    · have h := zneg c h
      refine V_aload_n 15 rfl 0 dX10_lays__14 rfl rfl ?_
      refine V_iload_n 16 rfl 1 dX10_lays__15 rfl rfl ?_
      obtain ⟨x1, h1, h⟩ := zbd h
      refine V_cV 19 rfl 3 [zI s.1] [] dX10_lays__16 cv_X10_252 (ctX10_laysFlat (Nat.le_refl 3) h1) (Nat.le_trans (by decide) hd) rfl rfl (Nat.le_of_ble_eq_true rfl) zokn rfl ?_
      refine V_aload_n 20 rfl 0 dX10_lays__19 rfl rfl ?_
      refine V_iload_n 21 rfl 1 dX10_lays__20 rfl rfl ?_
      obtain ⟨x2, h1, h⟩ := zbd h
      refine V_cV 24 rfl 0 [zI s.1] [] dX10_lays__21 cv_X10_204 (ctX10_isTrait (Nat.le_refl 0) h1) (Nat.le_trans (by decide) hd) rfl rfl (Nat.le_of_ble_eq_true rfl) zoki rfl ?_
      refine V_if_eq 27 44 rfl dX10_lays__24 (by decide) (fun c => ?_) (fun c => ?_)
      · have h := zpos c h
        refine V_aload_n 45 rfl 0 dX10_lays__44 rfl rfl ?_
        refine V_iload_n 46 rfl 1 dX10_lays__45 rfl rfl ?_
        obtain ⟨x3, h1, h⟩ := zbd h
        refine V_cV 49 rfl 3 [zI s.1] [] dX10_lays__46 cv_X10_255 (ctX10_laysLine (Nat.le_refl 3) h1) (Nat.le_trans (by decide) hd) rfl rfl (Nat.le_of_ble_eq_true rfl) zokn rfl ?_
        refine V_iinc 52 rfl (s.1 + 1) (L' := [some (zK 10 0), some (zI (s.1 + 1))]) dX10_lays__49 rfl rfl (by decide) rfl ?_
        refine V_goto 2 dX10_lays__52 (by decide) ?_
        exact kc ((s.1 + 1), x3) (zinj h)
      · have h := zneg c h
        refine V_aload_n 28 rfl 0 dX10_lays__27 rfl rfl ?_
        refine V_getr 31 rfl 46 0 dX10_lays__28 fl_X10_38 rfl rfl rfl ?_
        refine V_iload_n 32 rfl 1 dX10_lays__31 rfl rfl ?_
        refine V_iconst 33 rfl (v := 0) dX10_lays__32 (by decide) ?_
        obtain ⟨hi, h⟩ := zobd h
        refine V_iast 34 rfl dX10_lays__33 rfl hi ?_
        refine V_aload_n 35 rfl 0 dX10_lays__34 rfl rfl ?_
        refine V_getr 38 rfl 48 0 dX10_lays__35 fl_X10_44 rfl rfl rfl ?_
        refine V_iload_n 39 rfl 1 dX10_lays__38 rfl rfl ?_
        refine V_iconst 40 rfl (v := 0) dX10_lays__39 (by decide) ?_
        obtain ⟨hi, h⟩ := zobd h
        refine V_iast 41 rfl dX10_lays__40 rfl hi ?_
        refine V_goto 49 dX10_lays__41 (by decide) ?_
        refine V_iinc 52 rfl (s.1 + 1) (L' := [some (zK 10 0), some (zI (s.1 + 1))]) dX10_lays__49 rfl rfl (by decide) rfl ?_
        refine V_goto 2 dX10_lays__52 (by decide) ?_
        exact kc ((s.1 + 1), (wi ((wi x1 46 0 (zn s.1) 0)) 48 0 (zn s.1) 0)) (zinj h)
theorem wX10_lays_ {E : zE} {d : Nat} (hd : 4 ≤ d) {Q : Option zV → zM → Prop} {mm : zM} {o : zM} (h : fX10_lays_ mm = some o) (hQ : ∀ r, o = r → Q none r) : V E RX10 cX10_lays_ 2 none d Q 0 [some (zK 10 0), none] [] mm := by
  unfold fX10_lays_ at h
  refine V_iconst 1 rfl (v := 0) dX10_lays__0 (by decide) ?_
  refine V_istore_n 2 rfl 1 (L' := [some (zK 10 0), some (zI 0)]) dX10_lays__1 rfl (by decide) rfl ?_
  obtain ⟨o6, h1, h⟩ := zbd h
  refine wX10_lays__L2 hd h1 (fun y4 e => ?_)
  have h := zcl_ e h
  exact V_vret dX10_lays__55 rfl (hQ y4 (zinj h))
theorem ctX10_lays_ {E : zE} {d : Nat} (hd : 4 ≤ d) {mm : zM} {o : zM} (h : fX10_lays_ mm = some o) : zOC E yX10_lays_ cX10_lays_ 2 none d [zK 10 0] mm none o :=
  zCT_of (by decide) (Nat.le_of_ble_eq_true rfl) (zk_k zk_0) rfl (wX10_lays_ hd h (fun r e => ⟨rfl, by rw [e]⟩))
def fX10_kindOf (v1 : Int32) (v2 : Int32) (mm : zM) : Option Int32 :=
  (fX10_flatAt v1 v2 mm).bind (fun x1 => zob (zin x1 1560) (some ((gi mm 44 0 (zn x1)))))
theorem wX10_kindOf {E : zE} {d : Nat} (hd : 1 ≤ d) {Q : Option zV → zM → Prop} {v1 : Int32} {v2 : Int32} {mm : zM} {o : Int32} (h : fX10_kindOf v1 v2 mm = some o) (hQ : ∀ r, o = r → Q (some (zI r)) mm) : V E RX10 cX10_kindOf 3 (some .int) d Q 0 [some (zK 10 0), some (zI v1), some (zI v2)] [] mm := by
  unfold fX10_kindOf at h
  refine V_aload_n 1 rfl 0 dX10_kindOf_0 rfl rfl ?_
  refine V_getr 4 rfl 44 0 dX10_kindOf_1 fl_X10_32 rfl rfl rfl ?_
  refine V_iload_n 5 rfl 1 dX10_kindOf_4 rfl rfl ?_
  refine V_iload_n 6 rfl 2 dX10_kindOf_5 rfl rfl ?_
  obtain ⟨x1, h1, h⟩ := zbd h
  refine V_cS 9 rfl 0 [zI v1, zI v2] [zK 44 0] dX10_kindOf_6 cs_X10_216 (ctX10_flatAt (Nat.le_refl 0) h1) (Nat.le_trans (by decide) hd) rfl rfl (Nat.le_of_ble_eq_true rfl) zoki rfl ?_
  obtain ⟨hi, h⟩ := zobd h
  refine V_iald 10 rfl dX10_kindOf_9 rfl hi ?_
  exact V_iret dX10_kindOf_10 rfl (hQ ((gi mm 44 0 (zn x1))) (zinj h))
theorem ctX10_kindOf {E : zE} {d : Nat} (hd : 1 ≤ d) {v1 : Int32} {v2 : Int32} {mm : zM} {o : Int32} (h : fX10_kindOf v1 v2 mm = some o) : zOC E yX10_kindOf cX10_kindOf 3 (some .int) d [zK 10 0, zI v1, zI v2] mm (some (zI o)) mm :=
  zCT_of (by decide) (Nat.le_of_ble_eq_true rfl) (zk_k (zk_i (zk_i zk_0))) rfl (wX10_kindOf hd h (fun r e => ⟨by rw [e], rfl⟩))
def fX10_flatSet_L5 (v1 : Int32) (v2 : Int32) (mm : zM) (s : (Int32 × Int32)) : Option ((Int32 × Int32) ⊕ (Int32 ⊕ Empty)) :=
  if 26 ≤ s.2 then (some (.inr (.inl s.1))) else ((fX10_kindOf v1 s.2 mm).bind (fun x1 => if x1 = 0 then (some (.inl ((s.1 ||| 0), (s.2 + 1)))) else (if v2 = (-1) then (some (.inl ((s.1 ||| ((1 <<< (s.2 &&& 31)))), (s.2 + 1)))) else (if x1 = v2 then (some (.inl ((s.1 ||| ((1 <<< (s.2 &&& 31)))), (s.2 + 1)))) else (some (.inl ((s.1 ||| 0), (s.2 + 1))))))))
def fX10_flatSet (v1 : Int32) (v2 : Int32) (mm : zM) : Option Int32 :=
  (zloop (fX10_flatSet_L5 v1 v2 mm) zF (0, 0)).bind (fun o4 => zcase o4 (fun y2 => some y2) (fun r3 => r3.elim))
theorem wX10_flatSet_L5 {E : zE} {d : Nat} (hd : 2 ≤ d) {Q : Option zV → zM → Prop} {v1 : Int32} {v2 : Int32} {mm : zM} {n : Nat} {s : (Int32 × Int32)} {o : Int32 ⊕ Empty} (h : zloop (fX10_flatSet_L5 v1 v2 mm) n s = some o) (he : ∀ y : Int32, o = .inl y → V E RX10 cX10_flatSet 6 (some .int) d Q 54 [none, none, none, some (zI y), none, none] [] mm) : V E RX10 cX10_flatSet 6 (some .int) d Q 5 [some (zK 10 0), some (zI v1), some (zI v2), some (zI s.1), some (zI s.2), none] [] mm := by
  induction n generalizing s with
  | zero => exact (zloop_0 h).elim
  | succ n ih =>
    obtain ⟨o1, h1, hc1, he1⟩ := zloop_s h
    have kc : ∀ s' : (Int32 × Int32), o1 = .inl s' → V E RX10 cX10_flatSet 6 (some .int) d Q 5 [some (zK 10 0), some (zI v1), some (zI v2), some (zI s'.1), some (zI s'.2), none] [] mm := fun s' e => ih (hc1 s' e)
    have ke : ∀ y : Int32, o1 = .inr (.inl y) → V E RX10 cX10_flatSet 6 (some .int) d Q 54 [none, none, none, some (zI y), none, none] [] mm := fun y e => he y (he1 _ e)
    clear h hc1 he1 ih
    have h := h1
    clear h1
    unfold fX10_flatSet_L5 at h
    refine V_iload 7 rfl dX10_flatSet_5 rfl ?_
    refine V_bipush 9 rfl (v := 26) dX10_flatSet_7 (by decide) ?_
    refine V_icmp_ge 12 54 rfl dX10_flatSet_9 (by decide) (fun c => ?_) (fun c => ?_)
    · have h := zpos c h
      exact V_w (zsub_n (zsub_n (zsub_n (zsub_s (zsub_n (zsub_s zsub_0)))))) (ke s.1 (zinj h))
    · have h := zneg c h
      refine V_aload_n 13 rfl 0 dX10_flatSet_12 rfl rfl ?_
      refine V_iload_n 14 rfl 1 dX10_flatSet_13 rfl rfl ?_
      refine V_iload 16 rfl dX10_flatSet_14 rfl ?_
      obtain ⟨x1, h1, h⟩ := zbd h
      refine V_cV 19 rfl 1 [zI v1, zI s.2] [] dX10_flatSet_16 cv_X10_276 (ctX10_kindOf (Nat.le_refl 1) h1) (Nat.le_trans (by decide) hd) rfl rfl (Nat.le_of_ble_eq_true rfl) zoki rfl ?_
      refine V_istore 21 rfl (L' := [some (zK 10 0), some (zI v1), some (zI v2), some (zI s.1), some (zI s.2), some (zI x1)]) dX10_flatSet_19 (by decide) rfl ?_
      refine V_iload_n 22 rfl 3 dX10_flatSet_21 rfl rfl ?_
      refine V_iload 24 rfl dX10_flatSet_22 rfl ?_
      refine V_if_eq 27 45 rfl dX10_flatSet_24 (by decide) (fun c => ?_) (fun c => ?_)
      · have h := zpos c h
        refine V_iconst 46 rfl (v := 0) dX10_flatSet_45 (by decide) ?_
        refine V_ior 47 rfl dX10_flatSet_46 ?_
        refine V_istore_n 48 rfl 3 (L' := [some (zK 10 0), some (zI v1), some (zI v2), some (zI (s.1 ||| 0)), some (zI s.2), some (zI x1)]) dX10_flatSet_47 rfl (by decide) rfl ?_
        refine V_iinc 51 rfl (s.2 + 1) (L' := [some (zK 10 0), some (zI v1), some (zI v2), some (zI (s.1 ||| 0)), some (zI (s.2 + 1)), some (zI x1)]) dX10_flatSet_48 rfl rfl (by decide) rfl ?_
        refine V_goto 5 dX10_flatSet_51 (by decide) ?_
        exact V_w (zsub_s (zsub_s (zsub_s (zsub_s (zsub_s (zsub_n zsub_0)))))) (kc ((s.1 ||| 0), (s.2 + 1)) (zinj h))
      · have h := zneg c h
        refine V_iload_n 28 rfl 2 dX10_flatSet_27 rfl rfl ?_
        refine V_iconst 29 rfl (v := (-1)) dX10_flatSet_28 (by decide) ?_
        refine V_icmp_eq 32 38 rfl dX10_flatSet_29 (by decide) (fun c => ?_) (fun c => ?_)
        · have h := zpos c h
          refine V_iconst 39 rfl (v := 1) dX10_flatSet_38 (by decide) ?_
          refine V_iload 41 rfl dX10_flatSet_39 rfl ?_
          refine V_ishl 42 rfl dX10_flatSet_41 ?_
          refine V_goto 46 dX10_flatSet_42 (by decide) ?_
          refine V_ior 47 rfl dX10_flatSet_46 ?_
          refine V_istore_n 48 rfl 3 (L' := [some (zK 10 0), some (zI v1), some (zI v2), some (zI (s.1 ||| ((1 <<< (s.2 &&& 31))))), some (zI s.2), some (zI x1)]) dX10_flatSet_47 rfl (by decide) rfl ?_
          refine V_iinc 51 rfl (s.2 + 1) (L' := [some (zK 10 0), some (zI v1), some (zI v2), some (zI (s.1 ||| ((1 <<< (s.2 &&& 31))))), some (zI (s.2 + 1)), some (zI x1)]) dX10_flatSet_48 rfl rfl (by decide) rfl ?_
          refine V_goto 5 dX10_flatSet_51 (by decide) ?_
          exact V_w (zsub_s (zsub_s (zsub_s (zsub_s (zsub_s (zsub_n zsub_0)))))) (kc ((s.1 ||| ((1 <<< (s.2 &&& 31)))), (s.2 + 1)) (zinj h))
        · have h := zneg c h
          refine V_iload 34 rfl dX10_flatSet_32 rfl ?_
          refine V_iload_n 35 rfl 2 dX10_flatSet_34 rfl rfl ?_
          refine V_icmp_ne 38 45 rfl dX10_flatSet_35 (by decide) (fun c => ?_) (fun c => ?_)
          · have h := zneg c h
            refine V_iconst 46 rfl (v := 0) dX10_flatSet_45 (by decide) ?_
            refine V_ior 47 rfl dX10_flatSet_46 ?_
            refine V_istore_n 48 rfl 3 (L' := [some (zK 10 0), some (zI v1), some (zI v2), some (zI (s.1 ||| 0)), some (zI s.2), some (zI x1)]) dX10_flatSet_47 rfl (by decide) rfl ?_
            refine V_iinc 51 rfl (s.2 + 1) (L' := [some (zK 10 0), some (zI v1), some (zI v2), some (zI (s.1 ||| 0)), some (zI (s.2 + 1)), some (zI x1)]) dX10_flatSet_48 rfl rfl (by decide) rfl ?_
            refine V_goto 5 dX10_flatSet_51 (by decide) ?_
            exact V_w (zsub_s (zsub_s (zsub_s (zsub_s (zsub_s (zsub_n zsub_0)))))) (kc ((s.1 ||| 0), (s.2 + 1)) (zinj h))
          · have h := zpos c h
            refine V_iconst 39 rfl (v := 1) dX10_flatSet_38 (by decide) ?_
            refine V_iload 41 rfl dX10_flatSet_39 rfl ?_
            refine V_ishl 42 rfl dX10_flatSet_41 ?_
            refine V_goto 46 dX10_flatSet_42 (by decide) ?_
            refine V_ior 47 rfl dX10_flatSet_46 ?_
            refine V_istore_n 48 rfl 3 (L' := [some (zK 10 0), some (zI v1), some (zI v2), some (zI (s.1 ||| ((1 <<< (s.2 &&& 31))))), some (zI s.2), some (zI x1)]) dX10_flatSet_47 rfl (by decide) rfl ?_
            refine V_iinc 51 rfl (s.2 + 1) (L' := [some (zK 10 0), some (zI v1), some (zI v2), some (zI (s.1 ||| ((1 <<< (s.2 &&& 31))))), some (zI (s.2 + 1)), some (zI x1)]) dX10_flatSet_48 rfl rfl (by decide) rfl ?_
            refine V_goto 5 dX10_flatSet_51 (by decide) ?_
            exact V_w (zsub_s (zsub_s (zsub_s (zsub_s (zsub_s (zsub_n zsub_0)))))) (kc ((s.1 ||| ((1 <<< (s.2 &&& 31)))), (s.2 + 1)) (zinj h))
theorem wX10_flatSet {E : zE} {d : Nat} (hd : 2 ≤ d) {Q : Option zV → zM → Prop} {v1 : Int32} {v2 : Int32} {mm : zM} {o : Int32} (h : fX10_flatSet v1 v2 mm = some o) (hQ : ∀ r, o = r → Q (some (zI r)) mm) : V E RX10 cX10_flatSet 6 (some .int) d Q 0 [some (zK 10 0), some (zI v1), some (zI v2), none, none, none] [] mm := by
  unfold fX10_flatSet at h
  refine V_iconst 1 rfl (v := 0) dX10_flatSet_0 (by decide) ?_
  refine V_istore_n 2 rfl 3 (L' := [some (zK 10 0), some (zI v1), some (zI v2), some (zI 0), none, none]) dX10_flatSet_1 rfl (by decide) rfl ?_
  refine V_iconst 3 rfl (v := 0) dX10_flatSet_2 (by decide) ?_
  refine V_istore 5 rfl (L' := [some (zK 10 0), some (zI v1), some (zI v2), some (zI 0), some (zI 0), none]) dX10_flatSet_3 (by decide) rfl ?_
  obtain ⟨o4, h1, h⟩ := zbd h
  refine wX10_flatSet_L5 hd h1 (fun y2 e => ?_)
  have h := zcl_ e h
  refine V_iload_n 55 rfl 3 dX10_flatSet_54 rfl rfl ?_
  exact V_iret dX10_flatSet_55 rfl (hQ y2 (zinj h))
theorem ctX10_flatSet {E : zE} {d : Nat} (hd : 2 ≤ d) {v1 : Int32} {v2 : Int32} {mm : zM} {o : Int32} (h : fX10_flatSet v1 v2 mm = some o) : zOC E yX10_flatSet cX10_flatSet 6 (some .int) d [zK 10 0, zI v1, zI v2] mm (some (zI o)) mm :=
  zCT_of (by decide) (Nat.le_of_ble_eq_true rfl) (zk_k (zk_i (zk_i zk_0))) rfl (wX10_flatSet hd h (fun r e => ⟨by rw [e], rfl⟩))
def fX10_ownSet_J36 (v1 : Int32) (v2 : Int32) (v4 : Int32) (s0 : Int32) (mm : zM) : Option ((Int32 × Int32) ⊕ (Int32 ⊕ Empty)) :=
  (fX10_ownAt v1 v4 mm).bind (fun x2 => zob (zin x2 1357) (some (.inl ((s0 ||| ((1 <<< (((gi mm 38 0 (zn x2))) &&& 31)))), (v4 + 1)))))
def fX10_ownSet_L5 (v1 : Int32) (v2 : Int32) (mm : zM) (s : (Int32 × Int32)) : Option ((Int32 × Int32) ⊕ (Int32 ⊕ Empty)) :=
  (fX10_owns v1 mm).bind (fun x1 => if x1 ≤ s.2 then (some (.inr (.inl s.1))) else (if v2 = 0 then (fX10_ownSet_J36 v1 v2 s.2 s.1 mm) else ((fX10_ownAt v1 s.2 mm).bind (fun x3 => zob (zin ((x3 + 1)) 1357) (if (gi mm 38 0 (zn ((x3 + 1)))) = 0 then (fX10_ownSet_J36 v1 v2 s.2 s.1 mm) else (some (.inl ((s.1 ||| 0), (s.2 + 1)))))))))
def fX10_ownSet (v1 : Int32) (v2 : Int32) (mm : zM) : Option Int32 :=
  (zloop (fX10_ownSet_L5 v1 v2 mm) zF (0, 0)).bind (fun o6 => zcase o6 (fun y4 => some y4) (fun r5 => r5.elim))
theorem wX10_ownSet_J36 {E : zE} {d : Nat} (hd : 1 ≤ d) {Q : Option zV → zM → Prop} {v1 : Int32} {v2 : Int32} {v4 : Int32} {s0 : Int32} {mm : zM} {o : ((Int32 × Int32) ⊕ (Int32 ⊕ Empty))} (h : fX10_ownSet_J36 v1 v2 v4 s0 mm = some o) (kc : ∀ s' : (Int32 × Int32), o = .inl s' → V E RX10 cX10_ownSet 5 (some .int) d Q 5 [some (zK 10 0), some (zI v1), some (zI v2), some (zI s'.1), some (zI s'.2)] [] mm) (ke : ∀ y : Int32, o = .inr (.inl y) → V E RX10 cX10_ownSet 5 (some .int) d Q 61 [none, none, none, some (zI y), none] [] mm) : V E RX10 cX10_ownSet 5 (some .int) d Q 36 [some (zK 10 0), some (zI v1), some (zI v2), none, some (zI v4)] [zI s0] mm := by
  unfold fX10_ownSet_J36 at h
  refine V_iconst 37 rfl (v := 1) dX10_ownSet_36 (by decide) ?_
  refine V_aload_n 38 rfl 0 dX10_ownSet_37 rfl rfl ?_
  refine V_getr 41 rfl 38 0 dX10_ownSet_38 fl_X10_11 rfl rfl rfl ?_
  refine V_iload_n 42 rfl 1 dX10_ownSet_41 rfl rfl ?_
  refine V_iload 44 rfl dX10_ownSet_42 rfl ?_
  obtain ⟨x2, h1, h⟩ := zbd h
  refine V_cS 47 rfl 0 [zI v1, zI v4] [zK 38 0, zI 1, zI s0] dX10_ownSet_44 cs_X10_168 (ctX10_ownAt (Nat.le_refl 0) h1) (Nat.le_trans (by decide) hd) rfl rfl (Nat.le_of_ble_eq_true rfl) zoki rfl ?_
  obtain ⟨hi, h⟩ := zobd h
  refine V_iald 48 rfl dX10_ownSet_47 rfl hi ?_
  refine V_ishl 49 rfl dX10_ownSet_48 ?_
  refine V_goto 53 dX10_ownSet_49 (by decide) ?_
  refine V_ior 54 rfl dX10_ownSet_53 ?_
  refine V_istore_n 55 rfl 3 (L' := [some (zK 10 0), some (zI v1), some (zI v2), some (zI (s0 ||| ((1 <<< (((gi mm 38 0 (zn x2))) &&& 31))))), some (zI v4)]) dX10_ownSet_54 rfl (by decide) rfl ?_
  refine V_iinc 58 rfl (v4 + 1) (L' := [some (zK 10 0), some (zI v1), some (zI v2), some (zI (s0 ||| ((1 <<< (((gi mm 38 0 (zn x2))) &&& 31))))), some (zI (v4 + 1))]) dX10_ownSet_55 rfl rfl (by decide) rfl ?_
  refine V_goto 5 dX10_ownSet_58 (by decide) ?_
  exact kc ((s0 ||| ((1 <<< (((gi mm 38 0 (zn x2))) &&& 31)))), (v4 + 1)) (zinj h)
theorem wX10_ownSet_L5 {E : zE} {d : Nat} (hd : 1 ≤ d) {Q : Option zV → zM → Prop} {v1 : Int32} {v2 : Int32} {mm : zM} {n : Nat} {s : (Int32 × Int32)} {o : Int32 ⊕ Empty} (h : zloop (fX10_ownSet_L5 v1 v2 mm) n s = some o) (he : ∀ y : Int32, o = .inl y → V E RX10 cX10_ownSet 5 (some .int) d Q 61 [none, none, none, some (zI y), none] [] mm) : V E RX10 cX10_ownSet 5 (some .int) d Q 5 [some (zK 10 0), some (zI v1), some (zI v2), some (zI s.1), some (zI s.2)] [] mm := by
  induction n generalizing s with
  | zero => exact (zloop_0 h).elim
  | succ n ih =>
    obtain ⟨o1, h1, hc1, he1⟩ := zloop_s h
    have kc : ∀ s' : (Int32 × Int32), o1 = .inl s' → V E RX10 cX10_ownSet 5 (some .int) d Q 5 [some (zK 10 0), some (zI v1), some (zI v2), some (zI s'.1), some (zI s'.2)] [] mm := fun s' e => ih (hc1 s' e)
    have ke : ∀ y : Int32, o1 = .inr (.inl y) → V E RX10 cX10_ownSet 5 (some .int) d Q 61 [none, none, none, some (zI y), none] [] mm := fun y e => he y (he1 _ e)
    clear h hc1 he1 ih
    have h := h1
    clear h1
    unfold fX10_ownSet_L5 at h
    refine V_iload 7 rfl dX10_ownSet_5 rfl ?_
    refine V_aload_n 8 rfl 0 dX10_ownSet_7 rfl rfl ?_
    refine V_iload_n 9 rfl 1 dX10_ownSet_8 rfl rfl ?_
    obtain ⟨x1, h1, h⟩ := zbd h
    refine V_cV 12 rfl 0 [zI v1] [zI s.2] dX10_ownSet_9 cv_X10_207 (ctX10_owns (Nat.le_refl 0) h1) (Nat.le_trans (by decide) hd) rfl rfl (Nat.le_of_ble_eq_true rfl) zoki rfl ?_
    refine V_icmp_ge 15 61 rfl dX10_ownSet_12 (by decide) (fun c => ?_) (fun c => ?_)
    · have h := zpos c h
      exact V_w (zsub_n (zsub_n (zsub_n (zsub_s (zsub_n zsub_0))))) (ke s.1 (zinj h))
    · have h := zneg c h
      refine V_iload_n 16 rfl 3 dX10_ownSet_15 rfl rfl ?_
      refine V_iload_n 17 rfl 2 dX10_ownSet_16 rfl rfl ?_
      refine V_if_eq 20 36 rfl dX10_ownSet_17 (by decide) (fun c => ?_) (fun c => ?_)
      · have h := zpos c h
        exact V_w (zsub_s (zsub_s (zsub_s (zsub_n (zsub_s zsub_0))))) (wX10_ownSet_J36 hd h kc ke)
      · have h := zneg c h
        refine V_aload_n 21 rfl 0 dX10_ownSet_20 rfl rfl ?_
        refine V_getr 24 rfl 38 0 dX10_ownSet_21 fl_X10_11 rfl rfl rfl ?_
        refine V_iload_n 25 rfl 1 dX10_ownSet_24 rfl rfl ?_
        refine V_iload 27 rfl dX10_ownSet_25 rfl ?_
        obtain ⟨x3, h1, h⟩ := zbd h
        refine V_cS 30 rfl 0 [zI v1, zI s.2] [zK 38 0, zI s.1] dX10_ownSet_27 cs_X10_168 (ctX10_ownAt (Nat.le_refl 0) h1) (Nat.le_trans (by decide) hd) rfl rfl (Nat.le_of_ble_eq_true rfl) zoki rfl ?_
        refine V_iconst 31 rfl (v := 1) dX10_ownSet_30 (by decide) ?_
        refine V_iadd 32 rfl dX10_ownSet_31 ?_
        obtain ⟨hi, h⟩ := zobd h
        refine V_iald 33 rfl dX10_ownSet_32 rfl hi ?_
        refine V_if_ne 36 52 rfl dX10_ownSet_33 (by decide) (fun c => ?_) (fun c => ?_)
        · have h := zneg c h
          refine V_iconst 53 rfl (v := 0) dX10_ownSet_52 (by decide) ?_
          refine V_ior 54 rfl dX10_ownSet_53 ?_
          refine V_istore_n 55 rfl 3 (L' := [some (zK 10 0), some (zI v1), some (zI v2), some (zI (s.1 ||| 0)), some (zI s.2)]) dX10_ownSet_54 rfl (by decide) rfl ?_
          refine V_iinc 58 rfl (s.2 + 1) (L' := [some (zK 10 0), some (zI v1), some (zI v2), some (zI (s.1 ||| 0)), some (zI (s.2 + 1))]) dX10_ownSet_55 rfl rfl (by decide) rfl ?_
          refine V_goto 5 dX10_ownSet_58 (by decide) ?_
          exact kc ((s.1 ||| 0), (s.2 + 1)) (zinj h)
        · have h := zpos c h
          exact V_w (zsub_s (zsub_s (zsub_s (zsub_n (zsub_s zsub_0))))) (wX10_ownSet_J36 hd h kc ke)
theorem wX10_ownSet {E : zE} {d : Nat} (hd : 1 ≤ d) {Q : Option zV → zM → Prop} {v1 : Int32} {v2 : Int32} {mm : zM} {o : Int32} (h : fX10_ownSet v1 v2 mm = some o) (hQ : ∀ r, o = r → Q (some (zI r)) mm) : V E RX10 cX10_ownSet 5 (some .int) d Q 0 [some (zK 10 0), some (zI v1), some (zI v2), none, none] [] mm := by
  unfold fX10_ownSet at h
  refine V_iconst 1 rfl (v := 0) dX10_ownSet_0 (by decide) ?_
  refine V_istore_n 2 rfl 3 (L' := [some (zK 10 0), some (zI v1), some (zI v2), some (zI 0), none]) dX10_ownSet_1 rfl (by decide) rfl ?_
  refine V_iconst 3 rfl (v := 0) dX10_ownSet_2 (by decide) ?_
  refine V_istore 5 rfl (L' := [some (zK 10 0), some (zI v1), some (zI v2), some (zI 0), some (zI 0)]) dX10_ownSet_3 (by decide) rfl ?_
  obtain ⟨o6, h1, h⟩ := zbd h
  refine wX10_ownSet_L5 hd h1 (fun y4 e => ?_)
  have h := zcl_ e h
  refine V_iload_n 62 rfl 3 dX10_ownSet_61 rfl rfl ?_
  exact V_iret dX10_ownSet_62 rfl (hQ y4 (zinj h))
theorem ctX10_ownSet {E : zE} {d : Nat} (hd : 1 ≤ d) {v1 : Int32} {v2 : Int32} {mm : zM} {o : Int32} (h : fX10_ownSet v1 v2 mm = some o) : zOC E yX10_ownSet cX10_ownSet 5 (some .int) d [zK 10 0, zI v1, zI v2] mm (some (zI o)) mm :=
  zCT_of (by decide) (Nat.le_of_ble_eq_true rfl) (zk_k (zk_i (zk_i zk_0))) rfl (wX10_ownSet hd h (fun r e => ⟨by rw [e], rfl⟩))
def fX10_unit (v1 : Int32) (v2 : Int32) (mm : zM) : Option (Int32 × zM) :=
  (fX10_isUnit v1 mm).bind (fun x1 => if x1 = 0 then (some (((-1), mm))) else ((fX10_lays_ mm).bind (fun x2 => if v2 = 0 then (zob (zin ((((113 * v1)) + 0)) 1357) (some (((gi x2 38 0 (zn ((((113 * v1)) + 0)))), x2)))) else (if v2 = 1 then (zob (zin ((((113 * v1)) + 1)) 1357) (some (((gi x2 38 0 (zn ((((113 * v1)) + 1)))), x2)))) else (if v2 = 2 then ((fX10_parents v1 x2).bind (fun x10 => some ((x10, x2)))) else (if v2 = 3 then ((fX10_uses v1 x2).bind (fun x9 => some ((x9, x2)))) else (if v2 = 4 then ((fX10_ownSet v1 0 x2).bind (fun x8 => some ((x8, x2)))) else (if v2 = 5 then ((fX10_ownSet v1 1 x2).bind (fun x7 => some ((x7, x2)))) else (if v2 = 6 then ((fX10_flatSet v1 ((-1)) x2).bind (fun x6 => some ((x6, x2)))) else (if v2 = 7 then ((fX10_flatSet v1 1 x2).bind (fun x5 => some ((x5, x2)))) else (if v2 = 8 then ((fX10_flatSet v1 2 x2).bind (fun x4 => some ((x4, x2)))) else (if v2 = 9 then ((fX10_flatSet v1 3 x2).bind (fun x3 => some ((x3, x2)))) else (some (((-1), x2)))))))))))))))
theorem wX10_unit {E : zE} {d : Nat} (hd : 5 ≤ d) {Q : Option zV → zM → Prop} {v1 : Int32} {v2 : Int32} {mm : zM} {o : (Int32 × zM)} (h : fX10_unit v1 v2 mm = some o) (hQ : ∀ r, o = r → Q (some (zI r.1)) r.2) : V E RX10 cX10_unit 3 (some .int) d Q 0 [some (zK 10 0), some (zI v1), some (zI v2)] [] mm := by
  unfold fX10_unit at h
  refine V_aload_n 1 rfl 0 dX10_unit_0 rfl rfl ?_
  refine V_iload_n 2 rfl 1 dX10_unit_1 rfl rfl ?_
  obtain ⟨x1, h1, h⟩ := zbd h
  refine V_cV 5 rfl 1 [zI v1] [] dX10_unit_2 cv_X10_201 (ctX10_isUnit (Nat.le_refl 1) h1) (Nat.le_trans (by decide) hd) rfl rfl (Nat.le_of_ble_eq_true rfl) zoki rfl ?_
  refine V_if_ne 8 10 rfl dX10_unit_5 (by decide) (fun c => ?_) (fun c => ?_)
  · have h := zneg c h
    refine V_aload_n 11 rfl 0 dX10_unit_10 rfl rfl ?_
    obtain ⟨x2, h1, h⟩ := zbd h
    refine V_cV 14 rfl 4 [] [] dX10_unit_11 cv_X10_279 (ctX10_lays_ (Nat.le_refl 4) h1) (Nat.le_trans (by decide) hd) rfl rfl (Nat.le_of_ble_eq_true rfl) zokn rfl ?_
    refine V_iload_n 15 rfl 2 dX10_unit_14 rfl rfl ?_
    by_cases h_0 : v2 = 0
    · have h := zpos h_0 h
      refine V_tabIn 68 (off := 53) dX10_unit_15 (by rw [h_0]; decide) (by rw [h_0]; decide) (by rw [h_0]; decide) (by decide) ?_
      refine V_aload_n 69 rfl 0 dX10_unit_68 rfl rfl ?_
      refine V_getr 72 rfl 38 0 dX10_unit_69 fl_X10_11 rfl rfl rfl ?_
      refine V_bipush 74 rfl (v := 113) dX10_unit_72 (by decide) ?_
      refine V_iload_n 75 rfl 1 dX10_unit_74 rfl rfl ?_
      refine V_imul 76 rfl dX10_unit_75 ?_
      refine V_iconst 77 rfl (v := 0) dX10_unit_76 (by decide) ?_
      refine V_iadd 78 rfl dX10_unit_77 ?_
      obtain ⟨hi, h⟩ := zobd h
      refine V_iald 79 rfl dX10_unit_78 rfl hi ?_
      exact V_iret dX10_unit_79 rfl (hQ (((gi x2 38 0 (zn ((((113 * v1)) + 0)))), x2)) (zinj h))
    · have h := zneg h_0 h
      by_cases h_1 : v2 = 1
      · have h := zpos h_1 h
        refine V_tabIn 80 (off := 65) dX10_unit_15 (by rw [h_1]; decide) (by rw [h_1]; decide) (by rw [h_1]; decide) (by decide) ?_
        refine V_aload_n 81 rfl 0 dX10_unit_80 rfl rfl ?_
        refine V_getr 84 rfl 38 0 dX10_unit_81 fl_X10_11 rfl rfl rfl ?_
        refine V_bipush 86 rfl (v := 113) dX10_unit_84 (by decide) ?_
        refine V_iload_n 87 rfl 1 dX10_unit_86 rfl rfl ?_
        refine V_imul 88 rfl dX10_unit_87 ?_
        refine V_iconst 89 rfl (v := 1) dX10_unit_88 (by decide) ?_
        refine V_iadd 90 rfl dX10_unit_89 ?_
        obtain ⟨hi, h⟩ := zobd h
        refine V_iald 91 rfl dX10_unit_90 rfl hi ?_
        exact V_iret dX10_unit_91 rfl (hQ (((gi x2 38 0 (zn ((((113 * v1)) + 1)))), x2)) (zinj h))
      · have h := zneg h_1 h
        by_cases h_2 : v2 = 2
        · have h := zpos h_2 h
          refine V_tabIn 92 (off := 77) dX10_unit_15 (by rw [h_2]; decide) (by rw [h_2]; decide) (by rw [h_2]; decide) (by decide) ?_
          refine V_aload_n 93 rfl 0 dX10_unit_92 rfl rfl ?_
          refine V_iload_n 94 rfl 1 dX10_unit_93 rfl rfl ?_
          obtain ⟨x10, h1, h⟩ := zbd h
          refine V_cV 97 rfl 0 [zI v1] [] dX10_unit_94 cv_X10_237 (ctX10_parents (Nat.le_refl 0) h1) (Nat.le_trans (by decide) hd) rfl rfl (Nat.le_of_ble_eq_true rfl) zoki rfl ?_
          exact V_iret dX10_unit_97 rfl (hQ ((x10, x2)) (zinj h))
        · have h := zneg h_2 h
          by_cases h_3 : v2 = 3
          · have h := zpos h_3 h
            refine V_tabIn 98 (off := 83) dX10_unit_15 (by rw [h_3]; decide) (by rw [h_3]; decide) (by rw [h_3]; decide) (by decide) ?_
            refine V_aload_n 99 rfl 0 dX10_unit_98 rfl rfl ?_
            refine V_iload_n 100 rfl 1 dX10_unit_99 rfl rfl ?_
            obtain ⟨x9, h1, h⟩ := zbd h
            refine V_cV 103 rfl 0 [zI v1] [] dX10_unit_100 cv_X10_210 (ctX10_uses (Nat.le_refl 0) h1) (Nat.le_trans (by decide) hd) rfl rfl (Nat.le_of_ble_eq_true rfl) zoki rfl ?_
            exact V_iret dX10_unit_103 rfl (hQ ((x9, x2)) (zinj h))
          · have h := zneg h_3 h
            by_cases h_4 : v2 = 4
            · have h := zpos h_4 h
              refine V_tabIn 104 (off := 89) dX10_unit_15 (by rw [h_4]; decide) (by rw [h_4]; decide) (by rw [h_4]; decide) (by decide) ?_
              refine V_aload_n 105 rfl 0 dX10_unit_104 rfl rfl ?_
              refine V_iload_n 106 rfl 1 dX10_unit_105 rfl rfl ?_
              refine V_iconst 107 rfl (v := 0) dX10_unit_106 (by decide) ?_
              obtain ⟨x8, h1, h⟩ := zbd h
              refine V_cV 110 rfl 1 [zI v1, zI 0] [] dX10_unit_107 cv_X10_281 (ctX10_ownSet (Nat.le_refl 1) h1) (Nat.le_trans (by decide) hd) rfl rfl (Nat.le_of_ble_eq_true rfl) zoki rfl ?_
              exact V_iret dX10_unit_110 rfl (hQ ((x8, x2)) (zinj h))
            · have h := zneg h_4 h
              by_cases h_5 : v2 = 5
              · have h := zpos h_5 h
                refine V_tabIn 111 (off := 96) dX10_unit_15 (by rw [h_5]; decide) (by rw [h_5]; decide) (by rw [h_5]; decide) (by decide) ?_
                refine V_aload_n 112 rfl 0 dX10_unit_111 rfl rfl ?_
                refine V_iload_n 113 rfl 1 dX10_unit_112 rfl rfl ?_
                refine V_iconst 114 rfl (v := 1) dX10_unit_113 (by decide) ?_
                obtain ⟨x7, h1, h⟩ := zbd h
                refine V_cV 117 rfl 1 [zI v1, zI 1] [] dX10_unit_114 cv_X10_281 (ctX10_ownSet (Nat.le_refl 1) h1) (Nat.le_trans (by decide) hd) rfl rfl (Nat.le_of_ble_eq_true rfl) zoki rfl ?_
                exact V_iret dX10_unit_117 rfl (hQ ((x7, x2)) (zinj h))
              · have h := zneg h_5 h
                by_cases h_6 : v2 = 6
                · have h := zpos h_6 h
                  refine V_tabIn 118 (off := 103) dX10_unit_15 (by rw [h_6]; decide) (by rw [h_6]; decide) (by rw [h_6]; decide) (by decide) ?_
                  refine V_aload_n 119 rfl 0 dX10_unit_118 rfl rfl ?_
                  refine V_iload_n 120 rfl 1 dX10_unit_119 rfl rfl ?_
                  refine V_iconst 121 rfl (v := (-1)) dX10_unit_120 (by decide) ?_
                  obtain ⟨x6, h1, h⟩ := zbd h
                  refine V_cV 124 rfl 2 [zI v1, zI (-1)] [] dX10_unit_121 cv_X10_285 (ctX10_flatSet (Nat.le_refl 2) h1) (Nat.le_trans (by decide) hd) rfl rfl (Nat.le_of_ble_eq_true rfl) zoki rfl ?_
                  exact V_iret dX10_unit_124 rfl (hQ ((x6, x2)) (zinj h))
                · have h := zneg h_6 h
                  by_cases h_7 : v2 = 7
                  · have h := zpos h_7 h
                    refine V_tabIn 125 (off := 110) dX10_unit_15 (by rw [h_7]; decide) (by rw [h_7]; decide) (by rw [h_7]; decide) (by decide) ?_
                    refine V_aload_n 126 rfl 0 dX10_unit_125 rfl rfl ?_
                    refine V_iload_n 127 rfl 1 dX10_unit_126 rfl rfl ?_
                    refine V_iconst 128 rfl (v := 1) dX10_unit_127 (by decide) ?_
                    obtain ⟨x5, h1, h⟩ := zbd h
                    refine V_cV 131 rfl 2 [zI v1, zI 1] [] dX10_unit_128 cv_X10_285 (ctX10_flatSet (Nat.le_refl 2) h1) (Nat.le_trans (by decide) hd) rfl rfl (Nat.le_of_ble_eq_true rfl) zoki rfl ?_
                    exact V_iret dX10_unit_131 rfl (hQ ((x5, x2)) (zinj h))
                  · have h := zneg h_7 h
                    by_cases h_8 : v2 = 8
                    · have h := zpos h_8 h
                      refine V_tabIn 132 (off := 117) dX10_unit_15 (by rw [h_8]; decide) (by rw [h_8]; decide) (by rw [h_8]; decide) (by decide) ?_
                      refine V_aload_n 133 rfl 0 dX10_unit_132 rfl rfl ?_
                      refine V_iload_n 134 rfl 1 dX10_unit_133 rfl rfl ?_
                      refine V_iconst 135 rfl (v := 2) dX10_unit_134 (by decide) ?_
                      obtain ⟨x4, h1, h⟩ := zbd h
                      refine V_cV 138 rfl 2 [zI v1, zI 2] [] dX10_unit_135 cv_X10_285 (ctX10_flatSet (Nat.le_refl 2) h1) (Nat.le_trans (by decide) hd) rfl rfl (Nat.le_of_ble_eq_true rfl) zoki rfl ?_
                      exact V_iret dX10_unit_138 rfl (hQ ((x4, x2)) (zinj h))
                    · have h := zneg h_8 h
                      by_cases h_9 : v2 = 9
                      · have h := zpos h_9 h
                        refine V_tabIn 139 (off := 124) dX10_unit_15 (by rw [h_9]; decide) (by rw [h_9]; decide) (by rw [h_9]; decide) (by decide) ?_
                        refine V_aload_n 140 rfl 0 dX10_unit_139 rfl rfl ?_
                        refine V_iload_n 141 rfl 1 dX10_unit_140 rfl rfl ?_
                        refine V_iconst 142 rfl (v := 3) dX10_unit_141 (by decide) ?_
                        obtain ⟨x3, h1, h⟩ := zbd h
                        refine V_cV 145 rfl 2 [zI v1, zI 3] [] dX10_unit_142 cv_X10_285 (ctX10_flatSet (Nat.le_refl 2) h1) (Nat.le_trans (by decide) hd) rfl rfl (Nat.le_of_ble_eq_true rfl) zoki rfl ?_
                        exact V_iret dX10_unit_145 rfl (hQ ((x3, x2)) (zinj h))
                      · have h := zneg h_9 h
                        refine V_tabOut 146 dX10_unit_15 (by have n0 := zne h_0; simp only [show ((0 : Int32)).toInt = 0 from by decide] at n0; have n1 := zne h_1; simp only [show ((1 : Int32)).toInt = 1 from by decide] at n1; have n2 := zne h_2; simp only [show ((2 : Int32)).toInt = 2 from by decide] at n2; have n3 := zne h_3; simp only [show ((3 : Int32)).toInt = 3 from by decide] at n3; have n4 := zne h_4; simp only [show ((4 : Int32)).toInt = 4 from by decide] at n4; have n5 := zne h_5; simp only [show ((5 : Int32)).toInt = 5 from by decide] at n5; have n6 := zne h_6; simp only [show ((6 : Int32)).toInt = 6 from by decide] at n6; have n7 := zne h_7; simp only [show ((7 : Int32)).toInt = 7 from by decide] at n7; have n8 := zne h_8; simp only [show ((8 : Int32)).toInt = 8 from by decide] at n8; have n9 := zne h_9; simp only [show ((9 : Int32)).toInt = 9 from by decide] at n9; omega) (by decide) ?_
                        refine V_iconst 147 rfl (v := (-1)) dX10_unit_146 (by decide) ?_
                        exact V_iret dX10_unit_147 rfl (hQ (((-1), x2)) (zinj h))
  · have h := zpos c h
    refine V_iconst 9 rfl (v := (-1)) dX10_unit_8 (by decide) ?_
    exact V_iret dX10_unit_9 rfl (hQ (((-1), mm)) (zinj h))
theorem ctX10_unit {E : zE} {d : Nat} (hd : 5 ≤ d) {v1 : Int32} {v2 : Int32} {mm : zM} {o : (Int32 × zM)} (h : fX10_unit v1 v2 mm = some o) : zOC E yX10_unit cX10_unit 3 (some .int) d [zK 10 0, zI v1, zI v2] mm (some (zI o.1)) o.2 :=
  zCT_of (by decide) (Nat.le_of_ble_eq_true rfl) (zk_k (zk_i (zk_i zk_0))) rfl (wX10_unit hd h (fun r e => ⟨by rw [e], by rw [e]⟩))
def fX10_parent (v1 : Int32) (v2 : Int32) (mm : zM) : Option Int32 :=
  (fX10_isType v1 mm).bind (fun x1 => if x1 = 0 then (some ((-1))) else ((fX10_parents v1 mm).bind (fun x2 => (fX10_in v2 0 ((x2 - 1)) mm).bind (fun x3 => if x3 = 0 then (some ((-1))) else ((fX10_parentOf v1 v2 mm).bind (fun x4 => some x4))))))
theorem wX10_parent {E : zE} {d : Nat} (hd : 3 ≤ d) {Q : Option zV → zM → Prop} {v1 : Int32} {v2 : Int32} {mm : zM} {o : Int32} (h : fX10_parent v1 v2 mm = some o) (hQ : ∀ r, o = r → Q (some (zI r)) mm) : V E RX10 cX10_parent 3 (some .int) d Q 0 [some (zK 10 0), some (zI v1), some (zI v2)] [] mm := by
  unfold fX10_parent at h
  refine V_aload_n 1 rfl 0 dX10_parent_0 rfl rfl ?_
  refine V_iload_n 2 rfl 1 dX10_parent_1 rfl rfl ?_
  obtain ⟨x1, h1, h⟩ := zbd h
  refine V_cV 5 rfl 2 [zI v1] [] dX10_parent_2 cv_X10_258 (ctX10_isType (Nat.le_refl 2) h1) (Nat.le_trans (by decide) hd) rfl rfl (Nat.le_of_ble_eq_true rfl) zoki rfl ?_
  refine V_if_eq 8 32 rfl dX10_parent_5 (by decide) (fun c => ?_) (fun c => ?_)
  · have h := zpos c h
    refine V_iconst 33 rfl (v := (-1)) dX10_parent_32 (by decide) ?_
    exact V_iret dX10_parent_33 rfl (hQ ((-1)) (zinj h))
  · have h := zneg c h
    refine V_iload_n 9 rfl 2 dX10_parent_8 rfl rfl ?_
    refine V_iconst 10 rfl (v := 0) dX10_parent_9 (by decide) ?_
    refine V_aload_n 11 rfl 0 dX10_parent_10 rfl rfl ?_
    refine V_iload_n 12 rfl 1 dX10_parent_11 rfl rfl ?_
    obtain ⟨x2, h1, h⟩ := zbd h
    refine V_cV 15 rfl 0 [zI v1] [zI 0, zI v2] dX10_parent_12 cv_X10_237 (ctX10_parents (Nat.le_refl 0) h1) (Nat.le_trans (by decide) hd) rfl rfl (Nat.le_of_ble_eq_true rfl) zoki rfl ?_
    refine V_iconst 16 rfl (v := 1) dX10_parent_15 (by decide) ?_
    refine V_isub 17 rfl dX10_parent_16 ?_
    obtain ⟨x3, h1, h⟩ := zbd h
    refine V_cS 20 rfl 0 [zI v2, zI 0, zI (x2 - 1)] [] dX10_parent_17 cs_X10_88 (ctX10_in (Nat.le_refl 0) h1) (Nat.le_trans (by decide) hd) rfl rfl (Nat.le_of_ble_eq_true rfl) zoki rfl ?_
    refine V_if_eq 23 32 rfl dX10_parent_20 (by decide) (fun c => ?_) (fun c => ?_)
    · have h := zpos c h
      refine V_iconst 33 rfl (v := (-1)) dX10_parent_32 (by decide) ?_
      exact V_iret dX10_parent_33 rfl (hQ ((-1)) (zinj h))
    · have h := zneg c h
      refine V_aload_n 24 rfl 0 dX10_parent_23 rfl rfl ?_
      refine V_iload_n 25 rfl 1 dX10_parent_24 rfl rfl ?_
      refine V_iload_n 26 rfl 2 dX10_parent_25 rfl rfl ?_
      obtain ⟨x4, h1, h⟩ := zbd h
      refine V_cV 29 rfl 0 [zI v1, zI v2] [] dX10_parent_26 cv_X10_240 (ctX10_parentOf (Nat.le_refl 0) h1) (Nat.le_trans (by decide) hd) rfl rfl (Nat.le_of_ble_eq_true rfl) zoki rfl ?_
      refine V_goto 33 dX10_parent_29 (by decide) ?_
      exact V_iret dX10_parent_33 rfl (hQ x4 (zinj h))
theorem ctX10_parent {E : zE} {d : Nat} (hd : 3 ≤ d) {v1 : Int32} {v2 : Int32} {mm : zM} {o : Int32} (h : fX10_parent v1 v2 mm = some o) : zOC E yX10_parent cX10_parent 3 (some .int) d [zK 10 0, zI v1, zI v2] mm (some (zI o)) mm :=
  zCT_of (by decide) (Nat.le_of_ble_eq_true rfl) (zk_k (zk_i (zk_i zk_0))) rfl (wX10_parent hd h (fun r e => ⟨by rw [e], rfl⟩))
def fX10_used (v1 : Int32) (v2 : Int32) (mm : zM) : Option Int32 :=
  (fX10_isUnit v1 mm).bind (fun x1 => if x1 = 0 then (some ((-1))) else ((fX10_uses v1 mm).bind (fun x2 => (fX10_in v2 0 ((x2 - 1)) mm).bind (fun x3 => if x3 = 0 then (some ((-1))) else ((fX10_useAt v1 v2 mm).bind (fun x4 => zob (zin x4 1357) (some ((gi mm 38 0 (zn x4))))))))))
theorem wX10_used {E : zE} {d : Nat} (hd : 2 ≤ d) {Q : Option zV → zM → Prop} {v1 : Int32} {v2 : Int32} {mm : zM} {o : Int32} (h : fX10_used v1 v2 mm = some o) (hQ : ∀ r, o = r → Q (some (zI r)) mm) : V E RX10 cX10_used 3 (some .int) d Q 0 [some (zK 10 0), some (zI v1), some (zI v2)] [] mm := by
  unfold fX10_used at h
  refine V_aload_n 1 rfl 0 dX10_used_0 rfl rfl ?_
  refine V_iload_n 2 rfl 1 dX10_used_1 rfl rfl ?_
  obtain ⟨x1, h1, h⟩ := zbd h
  refine V_cV 5 rfl 1 [zI v1] [] dX10_used_2 cv_X10_201 (ctX10_isUnit (Nat.le_refl 1) h1) (Nat.le_trans (by decide) hd) rfl rfl (Nat.le_of_ble_eq_true rfl) zoki rfl ?_
  refine V_if_eq 8 36 rfl dX10_used_5 (by decide) (fun c => ?_) (fun c => ?_)
  · have h := zpos c h
    refine V_iconst 37 rfl (v := (-1)) dX10_used_36 (by decide) ?_
    exact V_iret dX10_used_37 rfl (hQ ((-1)) (zinj h))
  · have h := zneg c h
    refine V_iload_n 9 rfl 2 dX10_used_8 rfl rfl ?_
    refine V_iconst 10 rfl (v := 0) dX10_used_9 (by decide) ?_
    refine V_aload_n 11 rfl 0 dX10_used_10 rfl rfl ?_
    refine V_iload_n 12 rfl 1 dX10_used_11 rfl rfl ?_
    obtain ⟨x2, h1, h⟩ := zbd h
    refine V_cV 15 rfl 0 [zI v1] [zI 0, zI v2] dX10_used_12 cv_X10_210 (ctX10_uses (Nat.le_refl 0) h1) (Nat.le_trans (by decide) hd) rfl rfl (Nat.le_of_ble_eq_true rfl) zoki rfl ?_
    refine V_iconst 16 rfl (v := 1) dX10_used_15 (by decide) ?_
    refine V_isub 17 rfl dX10_used_16 ?_
    obtain ⟨x3, h1, h⟩ := zbd h
    refine V_cS 20 rfl 0 [zI v2, zI 0, zI (x2 - 1)] [] dX10_used_17 cs_X10_88 (ctX10_in (Nat.le_refl 0) h1) (Nat.le_trans (by decide) hd) rfl rfl (Nat.le_of_ble_eq_true rfl) zoki rfl ?_
    refine V_if_eq 23 36 rfl dX10_used_20 (by decide) (fun c => ?_) (fun c => ?_)
    · have h := zpos c h
      refine V_iconst 37 rfl (v := (-1)) dX10_used_36 (by decide) ?_
      exact V_iret dX10_used_37 rfl (hQ ((-1)) (zinj h))
    · have h := zneg c h
      refine V_aload_n 24 rfl 0 dX10_used_23 rfl rfl ?_
      refine V_getr 27 rfl 38 0 dX10_used_24 fl_X10_11 rfl rfl rfl ?_
      refine V_iload_n 28 rfl 1 dX10_used_27 rfl rfl ?_
      refine V_iload_n 29 rfl 2 dX10_used_28 rfl rfl ?_
      obtain ⟨x4, h1, h⟩ := zbd h
      refine V_cS 32 rfl 0 [zI v1, zI v2] [zK 38 0] dX10_used_29 cs_X10_147 (ctX10_useAt (Nat.le_refl 0) h1) (Nat.le_trans (by decide) hd) rfl rfl (Nat.le_of_ble_eq_true rfl) zoki rfl ?_
      obtain ⟨hi, h⟩ := zobd h
      refine V_iald 33 rfl dX10_used_32 rfl hi ?_
      refine V_goto 37 dX10_used_33 (by decide) ?_
      exact V_iret dX10_used_37 rfl (hQ ((gi mm 38 0 (zn x4))) (zinj h))
theorem ctX10_used {E : zE} {d : Nat} (hd : 2 ≤ d) {v1 : Int32} {v2 : Int32} {mm : zM} {o : Int32} (h : fX10_used v1 v2 mm = some o) : zOC E yX10_used cX10_used 3 (some .int) d [zK 10 0, zI v1, zI v2] mm (some (zI o)) mm :=
  zCT_of (by decide) (Nat.le_of_ble_eq_true rfl) (zk_k (zk_i (zk_i zk_0))) rfl (wX10_used hd h (fun r e => ⟨by rw [e], rfl⟩))
def fX10_becomes (v1 : Int32) (v2 : Int32) (v3 : Int32) (mm : zM) : Option Int32 :=
  (fX10_isUnit v1 mm).bind (fun x1 => if x1 = 0 then (some ((-1))) else ((fX10_uses v1 mm).bind (fun x2 => (fX10_in v2 0 ((x2 - 1)) mm).bind (fun x3 => if x3 = 0 then (some ((-1))) else ((fX10_in v3 0 25 mm).bind (fun x4 => if x4 = 0 then (some ((-1))) else ((fX10_becomesIn v1 v2 v3 mm).bind (fun x5 => if x5 = (-1) then (some ((-2))) else (some x5)))))))))
theorem wX10_becomes {E : zE} {d : Nat} (hd : 3 ≤ d) {Q : Option zV → zM → Prop} {v1 : Int32} {v2 : Int32} {v3 : Int32} {mm : zM} {o : Int32} (h : fX10_becomes v1 v2 v3 mm = some o) (hQ : ∀ r, o = r → Q (some (zI r)) mm) : V E RX10 cX10_becomes 5 (some .int) d Q 0 [some (zK 10 0), some (zI v1), some (zI v2), some (zI v3), none] [] mm := by
  unfold fX10_becomes at h
  refine V_aload_n 1 rfl 0 dX10_becomes_0 rfl rfl ?_
  refine V_iload_n 2 rfl 1 dX10_becomes_1 rfl rfl ?_
  obtain ⟨x1, h1, h⟩ := zbd h
  refine V_cV 5 rfl 1 [zI v1] [] dX10_becomes_2 cv_X10_201 (ctX10_isUnit (Nat.le_refl 1) h1) (Nat.le_trans (by decide) hd) rfl rfl (Nat.le_of_ble_eq_true rfl) zoki rfl ?_
  refine V_if_eq 8 33 rfl dX10_becomes_5 (by decide) (fun c => ?_) (fun c => ?_)
  · have h := zpos c h
    refine V_iconst 34 rfl (v := (-1)) dX10_becomes_33 (by decide) ?_
    exact V_iret dX10_becomes_34 rfl (hQ ((-1)) (zinj h))
  · have h := zneg c h
    refine V_iload_n 9 rfl 2 dX10_becomes_8 rfl rfl ?_
    refine V_iconst 10 rfl (v := 0) dX10_becomes_9 (by decide) ?_
    refine V_aload_n 11 rfl 0 dX10_becomes_10 rfl rfl ?_
    refine V_iload_n 12 rfl 1 dX10_becomes_11 rfl rfl ?_
    obtain ⟨x2, h1, h⟩ := zbd h
    refine V_cV 15 rfl 0 [zI v1] [zI 0, zI v2] dX10_becomes_12 cv_X10_210 (ctX10_uses (Nat.le_refl 0) h1) (Nat.le_trans (by decide) hd) rfl rfl (Nat.le_of_ble_eq_true rfl) zoki rfl ?_
    refine V_iconst 16 rfl (v := 1) dX10_becomes_15 (by decide) ?_
    refine V_isub 17 rfl dX10_becomes_16 ?_
    obtain ⟨x3, h1, h⟩ := zbd h
    refine V_cS 20 rfl 0 [zI v2, zI 0, zI (x2 - 1)] [] dX10_becomes_17 cs_X10_88 (ctX10_in (Nat.le_refl 0) h1) (Nat.le_trans (by decide) hd) rfl rfl (Nat.le_of_ble_eq_true rfl) zoki rfl ?_
    refine V_if_eq 23 33 rfl dX10_becomes_20 (by decide) (fun c => ?_) (fun c => ?_)
    · have h := zpos c h
      refine V_iconst 34 rfl (v := (-1)) dX10_becomes_33 (by decide) ?_
      exact V_iret dX10_becomes_34 rfl (hQ ((-1)) (zinj h))
    · have h := zneg c h
      refine V_iload_n 24 rfl 3 dX10_becomes_23 rfl rfl ?_
      refine V_iconst 25 rfl (v := 0) dX10_becomes_24 (by decide) ?_
      refine V_bipush 27 rfl (v := 25) dX10_becomes_25 (by decide) ?_
      obtain ⟨x4, h1, h⟩ := zbd h
      refine V_cS 30 rfl 0 [zI v3, zI 0, zI 25] [] dX10_becomes_27 cs_X10_88 (ctX10_in (Nat.le_refl 0) h1) (Nat.le_trans (by decide) hd) rfl rfl (Nat.le_of_ble_eq_true rfl) zoki rfl ?_
      refine V_if_ne 33 35 rfl dX10_becomes_30 (by decide) (fun c => ?_) (fun c => ?_)
      · have h := zneg c h
        refine V_aload_n 36 rfl 0 dX10_becomes_35 rfl rfl ?_
        refine V_iload_n 37 rfl 1 dX10_becomes_36 rfl rfl ?_
        refine V_iload_n 38 rfl 2 dX10_becomes_37 rfl rfl ?_
        refine V_iload_n 39 rfl 3 dX10_becomes_38 rfl rfl ?_
        obtain ⟨x5, h1, h⟩ := zbd h
        refine V_cV 42 rfl 2 [zI v1, zI v2, zI v3] [] dX10_becomes_39 cv_X10_222 (ctX10_becomesIn (Nat.le_refl 2) h1) (Nat.le_trans (by decide) hd) rfl rfl (Nat.le_of_ble_eq_true rfl) zoki rfl ?_
        refine V_istore 44 rfl (L' := [some (zK 10 0), some (zI v1), some (zI v2), some (zI v3), some (zI x5)]) dX10_becomes_42 (by decide) rfl ?_
        refine V_iload 46 rfl dX10_becomes_44 rfl ?_
        refine V_iconst 47 rfl (v := (-1)) dX10_becomes_46 (by decide) ?_
        refine V_icmp_ne 50 55 rfl dX10_becomes_47 (by decide) (fun c => ?_) (fun c => ?_)
        · have h := zneg c h
          refine V_iload 57 rfl dX10_becomes_55 rfl ?_
          exact V_iret dX10_becomes_57 rfl (hQ x5 (zinj h))
        · have h := zpos c h
          refine V_bipush 52 rfl (v := (-2)) dX10_becomes_50 (by decide) ?_
          refine V_goto 57 dX10_becomes_52 (by decide) ?_
          exact V_iret dX10_becomes_57 rfl (hQ ((-2)) (zinj h))
      · have h := zpos c h
        refine V_iconst 34 rfl (v := (-1)) dX10_becomes_33 (by decide) ?_
        exact V_iret dX10_becomes_34 rfl (hQ ((-1)) (zinj h))
theorem ctX10_becomes {E : zE} {d : Nat} (hd : 3 ≤ d) {v1 : Int32} {v2 : Int32} {v3 : Int32} {mm : zM} {o : Int32} (h : fX10_becomes v1 v2 v3 mm = some o) : zOC E yX10_becomes cX10_becomes 5 (some .int) d [zK 10 0, zI v1, zI v2, zI v3] mm (some (zI o)) mm :=
  zCT_of (by decide) (Nat.le_of_ble_eq_true rfl) (zk_k (zk_i (zk_i (zk_i zk_0)))) rfl (wX10_becomes hd h (fun r e => ⟨by rw [e], rfl⟩))
def fX10_body (v1 : Int32) (v2 : Int32) (v3 : Int32) (mm : zM) : Option Int32 :=
  (fX10_isUnit v1 mm).bind (fun x1 => if x1 = 0 then (some ((-1))) else ((fX10_ownOf v1 v2 mm).bind (fun x2 => if x2 = (-1) then (some ((-1))) else (if (-1) ≤ v3 then ((fX10_ownOf v1 v2 mm).bind (fun x3 => (fX10_ownAt v1 x3 mm).bind (fun x4 => if v3 = (-1) then (zob (zin ((x4 + 1)) 1357) (some ((gi mm 38 0 (zn ((x4 + 1))))))) else (zob (zin ((x4 + 1)) 1357) (if (gi mm 38 0 (zn ((x4 + 1)))) ≤ v3 then (some ((-2))) else (zob (zin ((((x4 + 2)) + v3)) 1357) (some ((gi mm 38 0 (zn ((((x4 + 2)) + v3)))))))))))) else (some ((-1)))))))
theorem wX10_body {E : zE} {d : Nat} (hd : 2 ≤ d) {Q : Option zV → zM → Prop} {v1 : Int32} {v2 : Int32} {v3 : Int32} {mm : zM} {o : Int32} (h : fX10_body v1 v2 v3 mm = some o) (hQ : ∀ r, o = r → Q (some (zI r)) mm) : V E RX10 cX10_body 5 (some .int) d Q 0 [some (zK 10 0), some (zI v1), some (zI v2), some (zI v3), none] [] mm := by
  unfold fX10_body at h
  refine V_aload_n 1 rfl 0 dX10_body_0 rfl rfl ?_
  refine V_iload_n 2 rfl 1 dX10_body_1 rfl rfl ?_
  obtain ⟨x1, h1, h⟩ := zbd h
  refine V_cV 5 rfl 1 [zI v1] [] dX10_body_2 cv_X10_201 (ctX10_isUnit (Nat.le_refl 1) h1) (Nat.le_trans (by decide) hd) rfl rfl (Nat.le_of_ble_eq_true rfl) zoki rfl ?_
  refine V_if_eq 8 23 rfl dX10_body_5 (by decide) (fun c => ?_) (fun c => ?_)
  · have h := zpos c h
    refine V_iconst 24 rfl (v := (-1)) dX10_body_23 (by decide) ?_
    exact V_iret dX10_body_24 rfl (hQ ((-1)) (zinj h))
  · have h := zneg c h
    refine V_aload_n 9 rfl 0 dX10_body_8 rfl rfl ?_
    refine V_iload_n 10 rfl 1 dX10_body_9 rfl rfl ?_
    refine V_iload_n 11 rfl 2 dX10_body_10 rfl rfl ?_
    obtain ⟨x2, h1, h⟩ := zbd h
    refine V_cV 14 rfl 1 [zI v1, zI v2] [] dX10_body_11 cv_X10_267 (ctX10_ownOf (Nat.le_refl 1) h1) (Nat.le_trans (by decide) hd) rfl rfl (Nat.le_of_ble_eq_true rfl) zoki rfl ?_
    refine V_iconst 15 rfl (v := (-1)) dX10_body_14 (by decide) ?_
    refine V_icmp_eq 18 23 rfl dX10_body_15 (by decide) (fun c => ?_) (fun c => ?_)
    · have h := zpos c h
      refine V_iconst 24 rfl (v := (-1)) dX10_body_23 (by decide) ?_
      exact V_iret dX10_body_24 rfl (hQ ((-1)) (zinj h))
    · have h := zneg c h
      refine V_iload_n 19 rfl 3 dX10_body_18 rfl rfl ?_
      refine V_iconst 20 rfl (v := (-1)) dX10_body_19 (by decide) ?_
      refine V_icmp_ge 23 25 rfl dX10_body_20 (by decide) (fun c => ?_) (fun c => ?_)
      · have h := zpos c h
        refine V_iload_n 26 rfl 1 dX10_body_25 rfl rfl ?_
        refine V_aload_n 27 rfl 0 dX10_body_26 rfl rfl ?_
        refine V_iload_n 28 rfl 1 dX10_body_27 rfl rfl ?_
        refine V_iload_n 29 rfl 2 dX10_body_28 rfl rfl ?_
        obtain ⟨x3, h1, h⟩ := zbd h
        refine V_cV 32 rfl 1 [zI v1, zI v2] [zI v1] dX10_body_29 cv_X10_267 (ctX10_ownOf (Nat.le_refl 1) h1) (Nat.le_trans (by decide) hd) rfl rfl (Nat.le_of_ble_eq_true rfl) zoki rfl ?_
        obtain ⟨x4, h1, h⟩ := zbd h
        refine V_cS 35 rfl 0 [zI v1, zI x3] [] dX10_body_32 cs_X10_168 (ctX10_ownAt (Nat.le_refl 0) h1) (Nat.le_trans (by decide) hd) rfl rfl (Nat.le_of_ble_eq_true rfl) zoki rfl ?_
        refine V_istore 37 rfl (L' := [some (zK 10 0), some (zI v1), some (zI v2), some (zI v3), some (zI x4)]) dX10_body_35 (by decide) rfl ?_
        refine V_iload_n 38 rfl 3 dX10_body_37 rfl rfl ?_
        refine V_iconst 39 rfl (v := (-1)) dX10_body_38 (by decide) ?_
        refine V_icmp_ne 42 52 rfl dX10_body_39 (by decide) (fun c => ?_) (fun c => ?_)
        · have h := zneg c h
          refine V_iload_n 53 rfl 3 dX10_body_52 rfl rfl ?_
          refine V_aload_n 54 rfl 0 dX10_body_53 rfl rfl ?_
          refine V_getr 57 rfl 38 0 dX10_body_54 fl_X10_11 rfl rfl rfl ?_
          refine V_iload 59 rfl dX10_body_57 rfl ?_
          refine V_iconst 60 rfl (v := 1) dX10_body_59 (by decide) ?_
          refine V_iadd 61 rfl dX10_body_60 ?_
          obtain ⟨hi, h⟩ := zobd h
          refine V_iald 62 rfl dX10_body_61 rfl hi ?_
          refine V_icmp_ge 65 79 rfl dX10_body_62 (by decide) (fun c => ?_) (fun c => ?_)
          · have h := zpos c h
            refine V_bipush 81 rfl (v := (-2)) dX10_body_79 (by decide) ?_
            exact V_iret dX10_body_81 rfl (hQ ((-2)) (zinj h))
          · have h := zneg c h
            refine V_aload_n 66 rfl 0 dX10_body_65 rfl rfl ?_
            refine V_getr 69 rfl 38 0 dX10_body_66 fl_X10_11 rfl rfl rfl ?_
            refine V_iload 71 rfl dX10_body_69 rfl ?_
            refine V_iconst 72 rfl (v := 2) dX10_body_71 (by decide) ?_
            refine V_iadd 73 rfl dX10_body_72 ?_
            refine V_iload_n 74 rfl 3 dX10_body_73 rfl rfl ?_
            refine V_iadd 75 rfl dX10_body_74 ?_
            obtain ⟨hi, h⟩ := zobd h
            refine V_iald 76 rfl dX10_body_75 rfl hi ?_
            refine V_goto 81 dX10_body_76 (by decide) ?_
            exact V_iret dX10_body_81 rfl (hQ ((gi mm 38 0 (zn ((((x4 + 2)) + v3))))) (zinj h))
        · have h := zpos c h
          refine V_aload_n 43 rfl 0 dX10_body_42 rfl rfl ?_
          refine V_getr 46 rfl 38 0 dX10_body_43 fl_X10_11 rfl rfl rfl ?_
          refine V_iload 48 rfl dX10_body_46 rfl ?_
          refine V_iconst 49 rfl (v := 1) dX10_body_48 (by decide) ?_
          refine V_iadd 50 rfl dX10_body_49 ?_
          obtain ⟨hi, h⟩ := zobd h
          refine V_iald 51 rfl dX10_body_50 rfl hi ?_
          exact V_iret dX10_body_51 rfl (hQ ((gi mm 38 0 (zn ((x4 + 1))))) (zinj h))
      · have h := zneg c h
        refine V_iconst 24 rfl (v := (-1)) dX10_body_23 (by decide) ?_
        exact V_iret dX10_body_24 rfl (hQ ((-1)) (zinj h))
theorem ctX10_body {E : zE} {d : Nat} (hd : 2 ≤ d) {v1 : Int32} {v2 : Int32} {v3 : Int32} {mm : zM} {o : Int32} (h : fX10_body v1 v2 v3 mm = some o) : zOC E yX10_body cX10_body 5 (some .int) d [zK 10 0, zI v1, zI v2, zI v3] mm (some (zI o)) mm :=
  zCT_of (by decide) (Nat.le_of_ble_eq_true rfl) (zk_k (zk_i (zk_i (zk_i zk_0)))) rfl (wX10_body hd h (fun r e => ⟨by rw [e], rfl⟩))
def fX10_flat_J74 (v1 : Int32) (v2 : Int32) (v3 : Int32) (s0 : Int32) (mm : zM) : Option (Int32 × zM) :=
  if s0 = 0 then (some (((-2), mm))) else ((fX10_flatAt v1 v2 mm).bind (fun x6 => zob (zin ((x6 + v3)) 1560) (some (((gi mm 44 0 (zn ((x6 + v3)))), mm)))))
def fX10_flat_J69 (v1 : Int32) (v2 : Int32) (v3 : Int32) (mm : zM) : Option (Int32 × zM) :=
  fX10_flat_J74 v1 v2 v3 1 mm
def fX10_flat_J73 (v1 : Int32) (v2 : Int32) (v3 : Int32) (mm : zM) : Option (Int32 × zM) :=
  fX10_flat_J74 v1 v2 v3 0 mm
def fX10_flat (v1 : Int32) (v2 : Int32) (v3 : Int32) (mm : zM) : Option (Int32 × zM) :=
  (fX10_isUnit v1 mm).bind (fun x1 => if x1 = 0 then (some (((-1), mm))) else ((fX10_in v2 0 25 mm).bind (fun x2 => if x2 = 0 then (some (((-1), mm))) else ((fX10_in v3 0 4 mm).bind (fun x3 => if x3 = 0 then (some (((-1), mm))) else ((fX10_lays_ mm).bind (fun x4 => (fX10_kindOf v1 v2 x4).bind (fun x5 => if x5 = 0 then (some (((-1), x4))) else (if v3 = 0 then (fX10_flat_J69 v1 v2 v3 x4) else (if x5 = 3 then (fX10_flat_J69 v1 v2 v3 x4) else (if x5 = 1 then (if 3 ≤ v3 then (fX10_flat_J73 v1 v2 v3 x4) else (fX10_flat_J69 v1 v2 v3 x4)) else (fX10_flat_J73 v1 v2 v3 x4))))))))))))
theorem wX10_flat_J74 {E : zE} {d : Nat} (hd : 5 ≤ d) {Q : Option zV → zM → Prop} {v1 : Int32} {v2 : Int32} {v3 : Int32} {s0 : Int32} {mm : zM} {o : (Int32 × zM)} (h : fX10_flat_J74 v1 v2 v3 s0 mm = some o) (hQ : ∀ r, o = r → Q (some (zI r.1)) r.2) : V E RX10 cX10_flat 6 (some .int) d Q 74 [some (zK 10 0), some (zI v1), some (zI v2), some (zI v3), none, none] [zI s0] mm := by
  unfold fX10_flat_J74 at h
  refine V_istore 76 rfl (L' := [some (zK 10 0), some (zI v1), some (zI v2), some (zI v3), none, some (zI s0)]) dX10_flat_74 (by decide) rfl ?_
  refine V_iload 78 rfl dX10_flat_76 rfl ?_
  refine V_if_eq 81 96 rfl dX10_flat_78 (by decide) (fun c => ?_) (fun c => ?_)
  · have h := zpos c h
    refine V_bipush 98 rfl (v := (-2)) dX10_flat_96 (by decide) ?_
    exact V_iret dX10_flat_98 rfl (hQ (((-2), mm)) (zinj h))
  · have h := zneg c h
    refine V_aload_n 82 rfl 0 dX10_flat_81 rfl rfl ?_
    refine V_getr 85 rfl 44 0 dX10_flat_82 fl_X10_32 rfl rfl rfl ?_
    refine V_iload_n 86 rfl 1 dX10_flat_85 rfl rfl ?_
    refine V_iload_n 87 rfl 2 dX10_flat_86 rfl rfl ?_
    obtain ⟨x6, h1, h⟩ := zbd h
    refine V_cS 90 rfl 0 [zI v1, zI v2] [zK 44 0] dX10_flat_87 cs_X10_216 (ctX10_flatAt (Nat.le_refl 0) h1) (Nat.le_trans (by decide) hd) rfl rfl (Nat.le_of_ble_eq_true rfl) zoki rfl ?_
    refine V_iload_n 91 rfl 3 dX10_flat_90 rfl rfl ?_
    refine V_iadd 92 rfl dX10_flat_91 ?_
    obtain ⟨hi, h⟩ := zobd h
    refine V_iald 93 rfl dX10_flat_92 rfl hi ?_
    refine V_goto 98 dX10_flat_93 (by decide) ?_
    exact V_iret dX10_flat_98 rfl (hQ (((gi mm 44 0 (zn ((x6 + v3)))), mm)) (zinj h))
theorem wX10_flat_J69 {E : zE} {d : Nat} (hd : 5 ≤ d) {Q : Option zV → zM → Prop} {v1 : Int32} {v2 : Int32} {v3 : Int32} {mm : zM} {o : (Int32 × zM)} (h : fX10_flat_J69 v1 v2 v3 mm = some o) (hQ : ∀ r, o = r → Q (some (zI r.1)) r.2) : V E RX10 cX10_flat 6 (some .int) d Q 69 [some (zK 10 0), some (zI v1), some (zI v2), some (zI v3), none, none] [] mm := by
  unfold fX10_flat_J69 at h
  refine V_iconst 70 rfl (v := 1) dX10_flat_69 (by decide) ?_
  refine V_goto 74 dX10_flat_70 (by decide) ?_
  exact wX10_flat_J74 hd h hQ
theorem wX10_flat_J73 {E : zE} {d : Nat} (hd : 5 ≤ d) {Q : Option zV → zM → Prop} {v1 : Int32} {v2 : Int32} {v3 : Int32} {mm : zM} {o : (Int32 × zM)} (h : fX10_flat_J73 v1 v2 v3 mm = some o) (hQ : ∀ r, o = r → Q (some (zI r.1)) r.2) : V E RX10 cX10_flat 6 (some .int) d Q 73 [some (zK 10 0), some (zI v1), some (zI v2), some (zI v3), none, none] [] mm := by
  unfold fX10_flat_J73 at h
  refine V_iconst 74 rfl (v := 0) dX10_flat_73 (by decide) ?_
  exact wX10_flat_J74 hd h hQ
theorem wX10_flat {E : zE} {d : Nat} (hd : 5 ≤ d) {Q : Option zV → zM → Prop} {v1 : Int32} {v2 : Int32} {v3 : Int32} {mm : zM} {o : (Int32 × zM)} (h : fX10_flat v1 v2 v3 mm = some o) (hQ : ∀ r, o = r → Q (some (zI r.1)) r.2) : V E RX10 cX10_flat 6 (some .int) d Q 0 [some (zK 10 0), some (zI v1), some (zI v2), some (zI v3), none, none] [] mm := by
  unfold fX10_flat at h
  refine V_aload_n 1 rfl 0 dX10_flat_0 rfl rfl ?_
  refine V_iload_n 2 rfl 1 dX10_flat_1 rfl rfl ?_
  obtain ⟨x1, h1, h⟩ := zbd h
  refine V_cV 5 rfl 1 [zI v1] [] dX10_flat_2 cv_X10_201 (ctX10_isUnit (Nat.le_refl 1) h1) (Nat.le_trans (by decide) hd) rfl rfl (Nat.le_of_ble_eq_true rfl) zoki rfl ?_
  refine V_if_eq 8 27 rfl dX10_flat_5 (by decide) (fun c => ?_) (fun c => ?_)
  · have h := zpos c h
    refine V_iconst 28 rfl (v := (-1)) dX10_flat_27 (by decide) ?_
    exact V_iret dX10_flat_28 rfl (hQ (((-1), mm)) (zinj h))
  · have h := zneg c h
    refine V_iload_n 9 rfl 2 dX10_flat_8 rfl rfl ?_
    refine V_iconst 10 rfl (v := 0) dX10_flat_9 (by decide) ?_
    refine V_bipush 12 rfl (v := 25) dX10_flat_10 (by decide) ?_
    obtain ⟨x2, h1, h⟩ := zbd h
    refine V_cS 15 rfl 0 [zI v2, zI 0, zI 25] [] dX10_flat_12 cs_X10_88 (ctX10_in (Nat.le_refl 0) h1) (Nat.le_trans (by decide) hd) rfl rfl (Nat.le_of_ble_eq_true rfl) zoki rfl ?_
    refine V_if_eq 18 27 rfl dX10_flat_15 (by decide) (fun c => ?_) (fun c => ?_)
    · have h := zpos c h
      refine V_iconst 28 rfl (v := (-1)) dX10_flat_27 (by decide) ?_
      exact V_iret dX10_flat_28 rfl (hQ (((-1), mm)) (zinj h))
    · have h := zneg c h
      refine V_iload_n 19 rfl 3 dX10_flat_18 rfl rfl ?_
      refine V_iconst 20 rfl (v := 0) dX10_flat_19 (by decide) ?_
      refine V_iconst 21 rfl (v := 4) dX10_flat_20 (by decide) ?_
      obtain ⟨x3, h1, h⟩ := zbd h
      refine V_cS 24 rfl 0 [zI v3, zI 0, zI 4] [] dX10_flat_21 cs_X10_88 (ctX10_in (Nat.le_refl 0) h1) (Nat.le_trans (by decide) hd) rfl rfl (Nat.le_of_ble_eq_true rfl) zoki rfl ?_
      refine V_if_ne 27 29 rfl dX10_flat_24 (by decide) (fun c => ?_) (fun c => ?_)
      · have h := zneg c h
        refine V_aload_n 30 rfl 0 dX10_flat_29 rfl rfl ?_
        obtain ⟨x4, h1, h⟩ := zbd h
        refine V_cV 33 rfl 4 [] [] dX10_flat_30 cv_X10_279 (ctX10_lays_ (Nat.le_refl 4) h1) (Nat.le_trans (by decide) hd) rfl rfl (Nat.le_of_ble_eq_true rfl) zokn rfl ?_
        refine V_aload_n 34 rfl 0 dX10_flat_33 rfl rfl ?_
        refine V_iload_n 35 rfl 1 dX10_flat_34 rfl rfl ?_
        refine V_iload_n 36 rfl 2 dX10_flat_35 rfl rfl ?_
        obtain ⟨x5, h1, h⟩ := zbd h
        refine V_cV 39 rfl 1 [zI v1, zI v2] [] dX10_flat_36 cv_X10_276 (ctX10_kindOf (Nat.le_refl 1) h1) (Nat.le_trans (by decide) hd) rfl rfl (Nat.le_of_ble_eq_true rfl) zoki rfl ?_
        refine V_istore 41 rfl (L' := [some (zK 10 0), some (zI v1), some (zI v2), some (zI v3), some (zI x5), none]) dX10_flat_39 (by decide) rfl ?_
        refine V_iload 43 rfl dX10_flat_41 rfl ?_
        refine V_if_ne 46 48 rfl dX10_flat_43 (by decide) (fun c => ?_) (fun c => ?_)
        · have h := zneg c h
          refine V_iload_n 49 rfl 3 dX10_flat_48 rfl rfl ?_
          refine V_if_eq 52 69 rfl dX10_flat_49 (by decide) (fun c => ?_) (fun c => ?_)
          · have h := zpos c h
            exact V_w (zsub_s (zsub_s (zsub_s (zsub_s (zsub_n (zsub_s zsub_0)))))) (wX10_flat_J69 hd h hQ)
          · have h := zneg c h
            refine V_iload 54 rfl dX10_flat_52 rfl ?_
            refine V_iconst 55 rfl (v := 3) dX10_flat_54 (by decide) ?_
            refine V_icmp_eq 58 69 rfl dX10_flat_55 (by decide) (fun c => ?_) (fun c => ?_)
            · have h := zpos c h
              exact V_w (zsub_s (zsub_s (zsub_s (zsub_s (zsub_n (zsub_s zsub_0)))))) (wX10_flat_J69 hd h hQ)
            · have h := zneg c h
              refine V_iload 60 rfl dX10_flat_58 rfl ?_
              refine V_iconst 61 rfl (v := 1) dX10_flat_60 (by decide) ?_
              refine V_icmp_ne 64 73 rfl dX10_flat_61 (by decide) (fun c => ?_) (fun c => ?_)
              · have h := zneg c h
                exact V_w (zsub_s (zsub_s (zsub_s (zsub_s (zsub_n (zsub_s zsub_0)))))) (wX10_flat_J73 hd h hQ)
              · have h := zpos c h
                refine V_iload_n 65 rfl 3 dX10_flat_64 rfl rfl ?_
                refine V_iconst 66 rfl (v := 3) dX10_flat_65 (by decide) ?_
                refine V_icmp_ge 69 73 rfl dX10_flat_66 (by decide) (fun c => ?_) (fun c => ?_)
                · have h := zpos c h
                  exact V_w (zsub_s (zsub_s (zsub_s (zsub_s (zsub_n (zsub_s zsub_0)))))) (wX10_flat_J73 hd h hQ)
                · have h := zneg c h
                  exact V_w (zsub_s (zsub_s (zsub_s (zsub_s (zsub_n (zsub_s zsub_0)))))) (wX10_flat_J69 hd h hQ)
        · have h := zpos c h
          refine V_iconst 47 rfl (v := (-1)) dX10_flat_46 (by decide) ?_
          exact V_iret dX10_flat_47 rfl (hQ (((-1), x4)) (zinj h))
      · have h := zpos c h
        refine V_iconst 28 rfl (v := (-1)) dX10_flat_27 (by decide) ?_
        exact V_iret dX10_flat_28 rfl (hQ (((-1), mm)) (zinj h))
theorem ctX10_flat {E : zE} {d : Nat} (hd : 5 ≤ d) {v1 : Int32} {v2 : Int32} {v3 : Int32} {mm : zM} {o : (Int32 × zM)} (h : fX10_flat v1 v2 v3 mm = some o) : zOC E yX10_flat cX10_flat 6 (some .int) d [zK 10 0, zI v1, zI v2, zI v3] mm (some (zI o.1)) o.2 :=
  zCT_of (by decide) (Nat.le_of_ble_eq_true rfl) (zk_k (zk_i (zk_i (zk_i zk_0)))) rfl (wX10_flat hd h (fun r e => ⟨by rw [e], by rw [e]⟩))
def fX10_line (v1 : Int32) (v2 : Int32) (mm : zM) : Option (Int32 × zM) :=
  (fX10_isType v1 mm).bind (fun x1 => if x1 = 0 then (some (((-1), mm))) else (if (-1) ≤ v2 then ((fX10_lays_ mm).bind (fun x2 => if v2 = (-1) then (zob (zin v1 12) (some (((gi x2 46 0 (zn v1)), x2)))) else (zob (zin v1 12) (if (gi x2 46 0 (zn v1)) ≤ v2 then (some (((-2), x2))) else (zob (zin ((((12 * v1)) + v2)) 144) (some (((gi x2 45 0 (zn ((((12 * v1)) + v2)))), x2)))))))) else (some (((-1), mm)))))
theorem wX10_line {E : zE} {d : Nat} (hd : 5 ≤ d) {Q : Option zV → zM → Prop} {v1 : Int32} {v2 : Int32} {mm : zM} {o : (Int32 × zM)} (h : fX10_line v1 v2 mm = some o) (hQ : ∀ r, o = r → Q (some (zI r.1)) r.2) : V E RX10 cX10_line 3 (some .int) d Q 0 [some (zK 10 0), some (zI v1), some (zI v2)] [] mm := by
  unfold fX10_line at h
  refine V_aload_n 1 rfl 0 dX10_line_0 rfl rfl ?_
  refine V_iload_n 2 rfl 1 dX10_line_1 rfl rfl ?_
  obtain ⟨x1, h1, h⟩ := zbd h
  refine V_cV 5 rfl 2 [zI v1] [] dX10_line_2 cv_X10_258 (ctX10_isType (Nat.le_refl 2) h1) (Nat.le_trans (by decide) hd) rfl rfl (Nat.le_of_ble_eq_true rfl) zoki rfl ?_
  refine V_if_eq 8 13 rfl dX10_line_5 (by decide) (fun c => ?_) (fun c => ?_)
  · have h := zpos c h
    refine V_iconst 14 rfl (v := (-1)) dX10_line_13 (by decide) ?_
    exact V_iret dX10_line_14 rfl (hQ (((-1), mm)) (zinj h))
  · have h := zneg c h
    refine V_iload_n 9 rfl 2 dX10_line_8 rfl rfl ?_
    refine V_iconst 10 rfl (v := (-1)) dX10_line_9 (by decide) ?_
    refine V_icmp_ge 13 15 rfl dX10_line_10 (by decide) (fun c => ?_) (fun c => ?_)
    · have h := zpos c h
      refine V_aload_n 16 rfl 0 dX10_line_15 rfl rfl ?_
      obtain ⟨x2, h1, h⟩ := zbd h
      refine V_cV 19 rfl 4 [] [] dX10_line_16 cv_X10_279 (ctX10_lays_ (Nat.le_refl 4) h1) (Nat.le_trans (by decide) hd) rfl rfl (Nat.le_of_ble_eq_true rfl) zokn rfl ?_
      refine V_iload_n 20 rfl 2 dX10_line_19 rfl rfl ?_
      refine V_iconst 21 rfl (v := (-1)) dX10_line_20 (by decide) ?_
      refine V_icmp_ne 24 31 rfl dX10_line_21 (by decide) (fun c => ?_) (fun c => ?_)
      · have h := zneg c h
        refine V_iload_n 32 rfl 2 dX10_line_31 rfl rfl ?_
        refine V_aload_n 33 rfl 0 dX10_line_32 rfl rfl ?_
        refine V_getr 36 rfl 46 0 dX10_line_33 fl_X10_38 rfl rfl rfl ?_
        refine V_iload_n 37 rfl 1 dX10_line_36 rfl rfl ?_
        obtain ⟨hi, h⟩ := zobd h
        refine V_iald 38 rfl dX10_line_37 rfl hi ?_
        refine V_icmp_ge 41 55 rfl dX10_line_38 (by decide) (fun c => ?_) (fun c => ?_)
        · have h := zpos c h
          refine V_bipush 57 rfl (v := (-2)) dX10_line_55 (by decide) ?_
          exact V_iret dX10_line_57 rfl (hQ (((-2), x2)) (zinj h))
        · have h := zneg c h
          refine V_aload_n 42 rfl 0 dX10_line_41 rfl rfl ?_
          refine V_getr 45 rfl 45 0 dX10_line_42 fl_X10_35 rfl rfl rfl ?_
          refine V_bipush 47 rfl (v := 12) dX10_line_45 (by decide) ?_
          refine V_iload_n 48 rfl 1 dX10_line_47 rfl rfl ?_
          refine V_imul 49 rfl dX10_line_48 ?_
          refine V_iload_n 50 rfl 2 dX10_line_49 rfl rfl ?_
          refine V_iadd 51 rfl dX10_line_50 ?_
          obtain ⟨hi, h⟩ := zobd h
          refine V_iald 52 rfl dX10_line_51 rfl hi ?_
          refine V_goto 57 dX10_line_52 (by decide) ?_
          exact V_iret dX10_line_57 rfl (hQ (((gi x2 45 0 (zn ((((12 * v1)) + v2)))), x2)) (zinj h))
      · have h := zpos c h
        refine V_aload_n 25 rfl 0 dX10_line_24 rfl rfl ?_
        refine V_getr 28 rfl 46 0 dX10_line_25 fl_X10_38 rfl rfl rfl ?_
        refine V_iload_n 29 rfl 1 dX10_line_28 rfl rfl ?_
        obtain ⟨hi, h⟩ := zobd h
        refine V_iald 30 rfl dX10_line_29 rfl hi ?_
        exact V_iret dX10_line_30 rfl (hQ (((gi x2 46 0 (zn v1)), x2)) (zinj h))
    · have h := zneg c h
      refine V_iconst 14 rfl (v := (-1)) dX10_line_13 (by decide) ?_
      exact V_iret dX10_line_14 rfl (hQ (((-1), mm)) (zinj h))
theorem ctX10_line {E : zE} {d : Nat} (hd : 5 ≤ d) {v1 : Int32} {v2 : Int32} {mm : zM} {o : (Int32 × zM)} (h : fX10_line v1 v2 mm = some o) : zOC E yX10_line cX10_line 3 (some .int) d [zK 10 0, zI v1, zI v2] mm (some (zI o.1)) o.2 :=
  zCT_of (by decide) (Nat.le_of_ble_eq_true rfl) (zk_k (zk_i (zk_i zk_0))) rfl (wX10_line hd h (fun r e => ⟨by rw [e], by rw [e]⟩))
def fX10_ring (v1 : Int32) (v2 : Int32) (mm : zM) : Option (Int32 × zM) :=
  (fX10_isType v1 mm).bind (fun x1 => if x1 = 0 then (some (((-1), mm))) else (if (-1) ≤ v2 then ((fX10_lays_ mm).bind (fun x2 => if v2 = (-1) then (zob (zin v1 12) (some (((gi x2 48 0 (zn v1)), x2)))) else (zob (zin v1 12) (if (gi x2 48 0 (zn v1)) ≤ v2 then (some (((-2), x2))) else (zob (zin ((((12 * v1)) + v2)) 144) (some (((gi x2 47 0 (zn ((((12 * v1)) + v2)))), x2)))))))) else (some (((-1), mm)))))
theorem wX10_ring {E : zE} {d : Nat} (hd : 5 ≤ d) {Q : Option zV → zM → Prop} {v1 : Int32} {v2 : Int32} {mm : zM} {o : (Int32 × zM)} (h : fX10_ring v1 v2 mm = some o) (hQ : ∀ r, o = r → Q (some (zI r.1)) r.2) : V E RX10 cX10_ring 3 (some .int) d Q 0 [some (zK 10 0), some (zI v1), some (zI v2)] [] mm := by
  unfold fX10_ring at h
  refine V_aload_n 1 rfl 0 dX10_ring_0 rfl rfl ?_
  refine V_iload_n 2 rfl 1 dX10_ring_1 rfl rfl ?_
  obtain ⟨x1, h1, h⟩ := zbd h
  refine V_cV 5 rfl 2 [zI v1] [] dX10_ring_2 cv_X10_258 (ctX10_isType (Nat.le_refl 2) h1) (Nat.le_trans (by decide) hd) rfl rfl (Nat.le_of_ble_eq_true rfl) zoki rfl ?_
  refine V_if_eq 8 13 rfl dX10_ring_5 (by decide) (fun c => ?_) (fun c => ?_)
  · have h := zpos c h
    refine V_iconst 14 rfl (v := (-1)) dX10_ring_13 (by decide) ?_
    exact V_iret dX10_ring_14 rfl (hQ (((-1), mm)) (zinj h))
  · have h := zneg c h
    refine V_iload_n 9 rfl 2 dX10_ring_8 rfl rfl ?_
    refine V_iconst 10 rfl (v := (-1)) dX10_ring_9 (by decide) ?_
    refine V_icmp_ge 13 15 rfl dX10_ring_10 (by decide) (fun c => ?_) (fun c => ?_)
    · have h := zpos c h
      refine V_aload_n 16 rfl 0 dX10_ring_15 rfl rfl ?_
      obtain ⟨x2, h1, h⟩ := zbd h
      refine V_cV 19 rfl 4 [] [] dX10_ring_16 cv_X10_279 (ctX10_lays_ (Nat.le_refl 4) h1) (Nat.le_trans (by decide) hd) rfl rfl (Nat.le_of_ble_eq_true rfl) zokn rfl ?_
      refine V_iload_n 20 rfl 2 dX10_ring_19 rfl rfl ?_
      refine V_iconst 21 rfl (v := (-1)) dX10_ring_20 (by decide) ?_
      refine V_icmp_ne 24 31 rfl dX10_ring_21 (by decide) (fun c => ?_) (fun c => ?_)
      · have h := zneg c h
        refine V_iload_n 32 rfl 2 dX10_ring_31 rfl rfl ?_
        refine V_aload_n 33 rfl 0 dX10_ring_32 rfl rfl ?_
        refine V_getr 36 rfl 48 0 dX10_ring_33 fl_X10_44 rfl rfl rfl ?_
        refine V_iload_n 37 rfl 1 dX10_ring_36 rfl rfl ?_
        obtain ⟨hi, h⟩ := zobd h
        refine V_iald 38 rfl dX10_ring_37 rfl hi ?_
        refine V_icmp_ge 41 55 rfl dX10_ring_38 (by decide) (fun c => ?_) (fun c => ?_)
        · have h := zpos c h
          refine V_bipush 57 rfl (v := (-2)) dX10_ring_55 (by decide) ?_
          exact V_iret dX10_ring_57 rfl (hQ (((-2), x2)) (zinj h))
        · have h := zneg c h
          refine V_aload_n 42 rfl 0 dX10_ring_41 rfl rfl ?_
          refine V_getr 45 rfl 47 0 dX10_ring_42 fl_X10_41 rfl rfl rfl ?_
          refine V_bipush 47 rfl (v := 12) dX10_ring_45 (by decide) ?_
          refine V_iload_n 48 rfl 1 dX10_ring_47 rfl rfl ?_
          refine V_imul 49 rfl dX10_ring_48 ?_
          refine V_iload_n 50 rfl 2 dX10_ring_49 rfl rfl ?_
          refine V_iadd 51 rfl dX10_ring_50 ?_
          obtain ⟨hi, h⟩ := zobd h
          refine V_iald 52 rfl dX10_ring_51 rfl hi ?_
          refine V_goto 57 dX10_ring_52 (by decide) ?_
          exact V_iret dX10_ring_57 rfl (hQ (((gi x2 47 0 (zn ((((12 * v1)) + v2)))), x2)) (zinj h))
      · have h := zpos c h
        refine V_aload_n 25 rfl 0 dX10_ring_24 rfl rfl ?_
        refine V_getr 28 rfl 48 0 dX10_ring_25 fl_X10_44 rfl rfl rfl ?_
        refine V_iload_n 29 rfl 1 dX10_ring_28 rfl rfl ?_
        obtain ⟨hi, h⟩ := zobd h
        refine V_iald 30 rfl dX10_ring_29 rfl hi ?_
        exact V_iret dX10_ring_30 rfl (hQ (((gi x2 48 0 (zn v1)), x2)) (zinj h))
    · have h := zneg c h
      refine V_iconst 14 rfl (v := (-1)) dX10_ring_13 (by decide) ?_
      exact V_iret dX10_ring_14 rfl (hQ (((-1), mm)) (zinj h))
theorem ctX10_ring {E : zE} {d : Nat} (hd : 5 ≤ d) {v1 : Int32} {v2 : Int32} {mm : zM} {o : (Int32 × zM)} (h : fX10_ring v1 v2 mm = some o) : zOC E yX10_ring cX10_ring 3 (some .int) d [zK 10 0, zI v1, zI v2] mm (some (zI o.1)) o.2 :=
  zCT_of (by decide) (Nat.le_of_ble_eq_true rfl) (zk_k (zk_i (zk_i zk_0))) rfl (wX10_ring hd h (fun r e => ⟨by rw [e], by rw [e]⟩))
def fX10_overSet_L13 (v3 : Int32) (mm : zM) (s : (Int32 × Int32)) : Option ((Int32 × Int32) ⊕ (Int32 ⊕ Empty)) :=
  (fX10_parents v3 mm).bind (fun x1 => if x1 ≤ s.2 then (some (.inr (.inl s.1))) else ((fX10_has s.1 v3 mm).bind (fun x2 => if x2 = 0 then (some (.inr (.inl s.1))) else ((fX10_parentOf v3 s.2 mm).bind (fun x3 => some (.inl ((s.1 ||| ((1 <<< (x3 &&& 31)))), (s.2 + 1))))))))
def fX10_overSet_L6 (mm : zM) (s : (Int32 × Int32)) : Option ((Int32 × Int32) ⊕ (Int32 ⊕ Empty)) :=
  if s.2 < 0 then (some (.inr (.inl s.1))) else ((zloop (fX10_overSet_L13 s.2 mm) zF (s.1, 0)).bind (fun o6 => zcase o6 (fun y4 => some (.inl (y4, (s.2 + (-1))))) (fun r5 => r5.elim)))
def fX10_overSet (v1 : Int32) (mm : zM) : Option Int32 :=
  (zloop (fX10_overSet_L6 mm) zF ((1 <<< (v1 &&& 31)), v1)).bind (fun o9 => zcase o9 (fun y7 => some y7) (fun r8 => r8.elim))
theorem wX10_overSet_L13 {E : zE} {d : Nat} (hd : 1 ≤ d) {Q : Option zV → zM → Prop} {v3 : Int32} {mm : zM} {n : Nat} {s : (Int32 × Int32)} {o : Int32 ⊕ Empty} (h : zloop (fX10_overSet_L13 v3 mm) n s = some o) (he : ∀ y : Int32, o = .inl y → V E RX10 cX10_overSet 5 (some .int) d Q 49 [some (zK 10 0), none, some (zI y), some (zI v3), none] [] mm) : V E RX10 cX10_overSet 5 (some .int) d Q 13 [some (zK 10 0), none, some (zI s.1), some (zI v3), some (zI s.2)] [] mm := by
  induction n generalizing s with
  | zero => exact (zloop_0 h).elim
  | succ n ih =>
    obtain ⟨o1, h1, hc1, he1⟩ := zloop_s h
    have kc : ∀ s' : (Int32 × Int32), o1 = .inl s' → V E RX10 cX10_overSet 5 (some .int) d Q 13 [some (zK 10 0), none, some (zI s'.1), some (zI v3), some (zI s'.2)] [] mm := fun s' e => ih (hc1 s' e)
    have ke : ∀ y : Int32, o1 = .inr (.inl y) → V E RX10 cX10_overSet 5 (some .int) d Q 49 [some (zK 10 0), none, some (zI y), some (zI v3), none] [] mm := fun y e => he y (he1 _ e)
    clear h hc1 he1 ih
    have h := h1
    clear h1
    unfold fX10_overSet_L13 at h
    refine V_iload 15 rfl dX10_overSet_13 rfl ?_
    refine V_aload_n 16 rfl 0 dX10_overSet_15 rfl rfl ?_
    refine V_iload_n 17 rfl 3 dX10_overSet_16 rfl rfl ?_
    obtain ⟨x1, h1, h⟩ := zbd h
    refine V_cV 20 rfl 0 [zI v3] [zI s.2] dX10_overSet_17 cv_X10_237 (ctX10_parents (Nat.le_refl 0) h1) (Nat.le_trans (by decide) hd) rfl rfl (Nat.le_of_ble_eq_true rfl) zoki rfl ?_
    refine V_icmp_ge 23 49 rfl dX10_overSet_20 (by decide) (fun c => ?_) (fun c => ?_)
    · have h := zpos c h
      exact V_w (zsub_s (zsub_s (zsub_s (zsub_s (zsub_n zsub_0))))) (ke s.1 (zinj h))
    · have h := zneg c h
      refine V_iload_n 24 rfl 2 dX10_overSet_23 rfl rfl ?_
      refine V_iload_n 25 rfl 3 dX10_overSet_24 rfl rfl ?_
      obtain ⟨x2, h1, h⟩ := zbd h
      refine V_cS 28 rfl 0 [zI s.1, zI v3] [] dX10_overSet_25 cs_X10_133 (ctX10_has (Nat.le_refl 0) h1) (Nat.le_trans (by decide) hd) rfl rfl (Nat.le_of_ble_eq_true rfl) zoki rfl ?_
      refine V_if_eq 31 49 rfl dX10_overSet_28 (by decide) (fun c => ?_) (fun c => ?_)
      · have h := zpos c h
        exact V_w (zsub_s (zsub_s (zsub_s (zsub_s (zsub_n zsub_0))))) (ke s.1 (zinj h))
      · have h := zneg c h
        refine V_iload_n 32 rfl 2 dX10_overSet_31 rfl rfl ?_
        refine V_iconst 33 rfl (v := 1) dX10_overSet_32 (by decide) ?_
        refine V_aload_n 34 rfl 0 dX10_overSet_33 rfl rfl ?_
        refine V_iload_n 35 rfl 3 dX10_overSet_34 rfl rfl ?_
        refine V_iload 37 rfl dX10_overSet_35 rfl ?_
        obtain ⟨x3, h1, h⟩ := zbd h
        refine V_cV 40 rfl 0 [zI v3, zI s.2] [zI 1, zI s.1] dX10_overSet_37 cv_X10_240 (ctX10_parentOf (Nat.le_refl 0) h1) (Nat.le_trans (by decide) hd) rfl rfl (Nat.le_of_ble_eq_true rfl) zoki rfl ?_
        refine V_ishl 41 rfl dX10_overSet_40 ?_
        refine V_ior 42 rfl dX10_overSet_41 ?_
        refine V_istore_n 43 rfl 2 (L' := [some (zK 10 0), none, some (zI (s.1 ||| ((1 <<< (x3 &&& 31))))), some (zI v3), some (zI s.2)]) dX10_overSet_42 rfl (by decide) rfl ?_
        refine V_iinc 46 rfl (s.2 + 1) (L' := [some (zK 10 0), none, some (zI (s.1 ||| ((1 <<< (x3 &&& 31))))), some (zI v3), some (zI (s.2 + 1))]) dX10_overSet_43 rfl rfl (by decide) rfl ?_
        refine V_goto 13 dX10_overSet_46 (by decide) ?_
        exact kc ((s.1 ||| ((1 <<< (x3 &&& 31)))), (s.2 + 1)) (zinj h)
theorem wX10_overSet_L6 {E : zE} {d : Nat} (hd : 1 ≤ d) {Q : Option zV → zM → Prop} {mm : zM} {n : Nat} {s : (Int32 × Int32)} {o : Int32 ⊕ Empty} (h : zloop (fX10_overSet_L6 mm) n s = some o) (he : ∀ y : Int32, o = .inl y → V E RX10 cX10_overSet 5 (some .int) d Q 55 [none, none, some (zI y), none, none] [] mm) : V E RX10 cX10_overSet 5 (some .int) d Q 6 [some (zK 10 0), none, some (zI s.1), some (zI s.2), none] [] mm := by
  induction n generalizing s with
  | zero => exact (zloop_0 h).elim
  | succ n ih =>
    obtain ⟨o1, h1, hc1, he1⟩ := zloop_s h
    have kc : ∀ s' : (Int32 × Int32), o1 = .inl s' → V E RX10 cX10_overSet 5 (some .int) d Q 6 [some (zK 10 0), none, some (zI s'.1), some (zI s'.2), none] [] mm := fun s' e => ih (hc1 s' e)
    have ke : ∀ y : Int32, o1 = .inr (.inl y) → V E RX10 cX10_overSet 5 (some .int) d Q 55 [none, none, some (zI y), none, none] [] mm := fun y e => he y (he1 _ e)
    clear h hc1 he1 ih
    have h := h1
    clear h1
    unfold fX10_overSet_L6 at h
    refine V_iload_n 7 rfl 3 dX10_overSet_6 rfl rfl ?_
    refine V_if_lt 10 55 rfl dX10_overSet_7 (by decide) (fun c => ?_) (fun c => ?_)
    · have h := zpos c h
      exact V_w (zsub_n (zsub_s (zsub_s (zsub_n (zsub_s zsub_0))))) (ke s.1 (zinj h))
    · have h := zneg c h
      refine V_iconst 11 rfl (v := 0) dX10_overSet_10 (by decide) ?_
      refine V_istore 13 rfl (L' := [some (zK 10 0), none, some (zI s.1), some (zI s.2), some (zI 0)]) dX10_overSet_11 (by decide) rfl ?_
      obtain ⟨o6, h1, h⟩ := zbd h
      refine wX10_overSet_L13 hd h1 (fun y4 e => ?_)
      have h := zcl_ e h
      refine V_iinc 52 rfl (s.2 + (-1)) (L' := [some (zK 10 0), none, some (zI y4), some (zI (s.2 + (-1))), none]) dX10_overSet_49 rfl rfl (by decide) rfl ?_
      refine V_goto 6 dX10_overSet_52 (by decide) ?_
      exact kc (y4, (s.2 + (-1))) (zinj h)
theorem wX10_overSet {E : zE} {d : Nat} (hd : 1 ≤ d) {Q : Option zV → zM → Prop} {v1 : Int32} {mm : zM} {o : Int32} (h : fX10_overSet v1 mm = some o) (hQ : ∀ r, o = r → Q (some (zI r)) mm) : V E RX10 cX10_overSet 5 (some .int) d Q 0 [some (zK 10 0), some (zI v1), none, none, none] [] mm := by
  unfold fX10_overSet at h
  refine V_iconst 1 rfl (v := 1) dX10_overSet_0 (by decide) ?_
  refine V_iload_n 2 rfl 1 dX10_overSet_1 rfl rfl ?_
  refine V_ishl 3 rfl dX10_overSet_2 ?_
  refine V_istore_n 4 rfl 2 (L' := [some (zK 10 0), some (zI v1), some (zI (1 <<< (v1 &&& 31))), none, none]) dX10_overSet_3 rfl (by decide) rfl ?_
  refine V_iload_n 5 rfl 1 dX10_overSet_4 rfl rfl ?_
  refine V_istore_n 6 rfl 3 (L' := [some (zK 10 0), some (zI v1), some (zI (1 <<< (v1 &&& 31))), some (zI v1), none]) dX10_overSet_5 rfl (by decide) rfl ?_
  obtain ⟨o9, h1, h⟩ := zbd h
  refine V_w (zsub_s (zsub_n (zsub_s (zsub_s (zsub_s zsub_0))))) (wX10_overSet_L6 hd h1 (fun y7 e => ?_))
  have h := zcl_ e h
  refine V_iload_n 56 rfl 2 dX10_overSet_55 rfl rfl ?_
  exact V_iret dX10_overSet_56 rfl (hQ y7 (zinj h))
theorem ctX10_overSet {E : zE} {d : Nat} (hd : 1 ≤ d) {v1 : Int32} {mm : zM} {o : Int32} (h : fX10_overSet v1 mm = some o) : zOC E yX10_overSet cX10_overSet 5 (some .int) d [zK 10 0, zI v1] mm (some (zI o)) mm :=
  zCT_of (by decide) (Nat.le_of_ble_eq_true rfl) (zk_k (zk_i zk_0)) rfl (wX10_overSet hd h (fun r e => ⟨by rw [e], rfl⟩))
def fX10_over (v1 : Int32) (mm : zM) : Option Int32 :=
  (fX10_isType v1 mm).bind (fun x1 => if x1 = 0 then (some ((-1))) else ((fX10_overSet v1 mm).bind (fun x2 => some x2)))
theorem wX10_over {E : zE} {d : Nat} (hd : 3 ≤ d) {Q : Option zV → zM → Prop} {v1 : Int32} {mm : zM} {o : Int32} (h : fX10_over v1 mm = some o) (hQ : ∀ r, o = r → Q (some (zI r)) mm) : V E RX10 cX10_over 2 (some .int) d Q 0 [some (zK 10 0), some (zI v1)] [] mm := by
  unfold fX10_over at h
  refine V_aload_n 1 rfl 0 dX10_over_0 rfl rfl ?_
  refine V_iload_n 2 rfl 1 dX10_over_1 rfl rfl ?_
  obtain ⟨x1, h1, h⟩ := zbd h
  refine V_cV 5 rfl 2 [zI v1] [] dX10_over_2 cv_X10_258 (ctX10_isType (Nat.le_refl 2) h1) (Nat.le_trans (by decide) hd) rfl rfl (Nat.le_of_ble_eq_true rfl) zoki rfl ?_
  refine V_if_eq 8 16 rfl dX10_over_5 (by decide) (fun c => ?_) (fun c => ?_)
  · have h := zpos c h
    refine V_iconst 17 rfl (v := (-1)) dX10_over_16 (by decide) ?_
    exact V_iret dX10_over_17 rfl (hQ ((-1)) (zinj h))
  · have h := zneg c h
    refine V_aload_n 9 rfl 0 dX10_over_8 rfl rfl ?_
    refine V_iload_n 10 rfl 1 dX10_over_9 rfl rfl ?_
    obtain ⟨x2, h1, h⟩ := zbd h
    refine V_cV 13 rfl 1 [zI v1] [] dX10_over_10 cv_X10_288 (ctX10_overSet (Nat.le_refl 1) h1) (Nat.le_trans (by decide) hd) rfl rfl (Nat.le_of_ble_eq_true rfl) zoki rfl ?_
    refine V_goto 17 dX10_over_13 (by decide) ?_
    exact V_iret dX10_over_17 rfl (hQ x2 (zinj h))
theorem ctX10_over {E : zE} {d : Nat} (hd : 3 ≤ d) {v1 : Int32} {mm : zM} {o : Int32} (h : fX10_over v1 mm = some o) : zOC E yX10_over cX10_over 2 (some .int) d [zK 10 0, zI v1] mm (some (zI o)) mm :=
  zCT_of (by decide) (Nat.le_of_ble_eq_true rfl) (zk_k (zk_i zk_0)) rfl (wX10_over hd h (fun r e => ⟨by rw [e], rfl⟩))
