def fX7_toldBits_L4 (v0 : Nat) (mm : zM) (s : (Int32 × Int32)) : Option ((Int32 × Int32) ⊕ (Int32 ⊕ Empty)) :=
  if 26 ≤ s.2 then (some (.inr (.inl s.1))) else ((fX7_tells v0 s.2 mm).bind (fun x1 => if x1 = 0 then (some (.inl (s.1, (s.2 + 1)))) else (some (.inl ((s.1 ||| ((1 <<< (s.2 &&& 31)))), (s.2 + 1))))))
def fX7_toldBits (v0 : Nat) (mm : zM) : Option Int32 :=
  (zloop (fX7_toldBits_L4 v0 mm) zF (0, 0)).bind (fun o4 => zcase o4 (fun y2 => some y2) (fun r3 => r3.elim))
theorem wX7_toldBits_L4 {E : zE} {d : Nat} (hd : 1 ≤ d) {Q : Option zV → zM → Prop} {v0 : Nat} {mm : zM} {n : Nat} {s : (Int32 × Int32)} {o : Int32 ⊕ Empty} (h : zloop (fX7_toldBits_L4 v0 mm) n s = some o) (he : ∀ y : Int32, o = .inl y → V E RX7 cX7_toldBits 3 (some .int) d Q 30 [none, some (zI y), none] [] mm) : V E RX7 cX7_toldBits 3 (some .int) d Q 4 [some (zK 7 v0), some (zI s.1), some (zI s.2)] [] mm := by
  induction n generalizing s with
  | zero => exact (zloop_0 h).elim
  | succ n ih =>
    obtain ⟨o1, h1, hc1, he1⟩ := zloop_s h
    have kc : ∀ s' : (Int32 × Int32), o1 = .inl s' → V E RX7 cX7_toldBits 3 (some .int) d Q 4 [some (zK 7 v0), some (zI s'.1), some (zI s'.2)] [] mm := fun s' e => ih (hc1 s' e)
    have ke : ∀ y : Int32, o1 = .inr (.inl y) → V E RX7 cX7_toldBits 3 (some .int) d Q 30 [none, some (zI y), none] [] mm := fun y e => he y (he1 _ e)
    clear h hc1 he1 ih
    have h := h1
    clear h1
    unfold fX7_toldBits_L4 at h
    refine V_iload_n 5 rfl 2 dX7_toldBits_4 rfl rfl ?_
    refine V_bipush 7 rfl (v := 26) dX7_toldBits_5 (by decide) ?_
    refine V_icmp_ge 10 30 rfl dX7_toldBits_7 (by decide) (fun c => ?_) (fun c => ?_)
    · have h := zpos c h
      exact V_w (zsub_n (zsub_s (zsub_n zsub_0))) (ke s.1 (zinj h))
    · have h := zneg c h
      refine V_aload_n 11 rfl 0 dX7_toldBits_10 rfl rfl ?_
      refine V_iload_n 12 rfl 2 dX7_toldBits_11 rfl rfl ?_
      obtain ⟨x1, h1, h⟩ := zbd h
      refine V_cV 15 rfl 0 [zI s.2] [] dX7_toldBits_12 cv_X7_54 (ctX7_tells (Nat.le_refl 0) h1) (Nat.le_trans (by decide) hd) rfl rfl (Nat.le_of_ble_eq_true rfl) zoki rfl ?_
      refine V_if_eq 18 24 rfl dX7_toldBits_15 (by decide) (fun c => ?_) (fun c => ?_)
      · have h := zpos c h
        refine V_iinc 27 rfl (s.2 + 1) (L' := [some (zK 7 v0), some (zI s.1), some (zI (s.2 + 1))]) dX7_toldBits_24 rfl rfl (by decide) rfl ?_
        refine V_goto 4 dX7_toldBits_27 (by decide) ?_
        exact kc (s.1, (s.2 + 1)) (zinj h)
      · have h := zneg c h
        refine V_iload_n 19 rfl 1 dX7_toldBits_18 rfl rfl ?_
        refine V_iconst 20 rfl (v := 1) dX7_toldBits_19 (by decide) ?_
        refine V_iload_n 21 rfl 2 dX7_toldBits_20 rfl rfl ?_
        refine V_ishl 22 rfl dX7_toldBits_21 ?_
        refine V_ior 23 rfl dX7_toldBits_22 ?_
        refine V_istore_n 24 rfl 1 (L' := [some (zK 7 v0), some (zI (s.1 ||| ((1 <<< (s.2 &&& 31))))), some (zI s.2)]) dX7_toldBits_23 rfl (by decide) rfl ?_
        refine V_iinc 27 rfl (s.2 + 1) (L' := [some (zK 7 v0), some (zI (s.1 ||| ((1 <<< (s.2 &&& 31))))), some (zI (s.2 + 1))]) dX7_toldBits_24 rfl rfl (by decide) rfl ?_
        refine V_goto 4 dX7_toldBits_27 (by decide) ?_
        exact kc ((s.1 ||| ((1 <<< (s.2 &&& 31)))), (s.2 + 1)) (zinj h)
theorem wX7_toldBits {E : zE} {d : Nat} (hd : 1 ≤ d) {Q : Option zV → zM → Prop} {v0 : Nat} {mm : zM} {o : Int32} (h : fX7_toldBits v0 mm = some o) (hQ : ∀ r, o = r → Q (some (zI r)) mm) : V E RX7 cX7_toldBits 3 (some .int) d Q 0 [some (zK 7 v0), none, none] [] mm := by
  unfold fX7_toldBits at h
  refine V_iconst 1 rfl (v := 0) dX7_toldBits_0 (by decide) ?_
  refine V_istore_n 2 rfl 1 (L' := [some (zK 7 v0), some (zI 0), none]) dX7_toldBits_1 rfl (by decide) rfl ?_
  refine V_iconst 3 rfl (v := 0) dX7_toldBits_2 (by decide) ?_
  refine V_istore_n 4 rfl 2 (L' := [some (zK 7 v0), some (zI 0), some (zI 0)]) dX7_toldBits_3 rfl (by decide) rfl ?_
  obtain ⟨o4, h1, h⟩ := zbd h
  refine wX7_toldBits_L4 hd h1 (fun y2 e => ?_)
  have h := zcl_ e h
  refine V_iload_n 31 rfl 1 dX7_toldBits_30 rfl rfl ?_
  exact V_iret dX7_toldBits_31 rfl (hQ y2 (zinj h))
theorem ctX7_toldBits {E : zE} {d : Nat} (hd : 1 ≤ d) {v0 : Nat} {mm : zM} {o : Int32} (h : fX7_toldBits v0 mm = some o) : zOC E yX7_toldBits cX7_toldBits 3 (some .int) d [zK 7 v0] mm (some (zI o)) mm :=
  zCT_of (by decide) (Nat.le_of_ble_eq_true rfl) (zk_k zk_0) rfl (wX7_toldBits hd h (fun r e => ⟨by rw [e], rfl⟩))
def fX9_unit (v1 : Int32) (v2 : Int32) (mm : zM) : Option (Int32 × zM) :=
  (gr mm 9 2).bind (fun j1 => (fX8_isUnit j1 v1 mm).bind (fun x2 => if x2 = 0 then (some (((-1), mm))) else ((fX9_settle mm).bind (fun x3 => (gr x3 9 2).bind (fun j4 => zob (zin v1 12) (if v2 = 0 then (if (gi x3 7 (12 * j4 + zn v1) 0) = 0 then (some ((0, x3))) else (some ((1, x3)))) else (if v2 = 1 then (some (((gi x3 7 (12 * j4 + zn v1) 1), x3))) else (if v2 = 2 then (some (((gi x3 5 (2 * (12 * j4 + zn v1)) 1), x3))) else (if v2 = 3 then (some (((gi x3 5 (2 * (12 * j4 + zn v1) + 1) 1), x3))) else (if v2 = 4 then ((fX7_toldBits ((12 * j4 + zn v1)) x3).bind (fun x10 => some ((x10, x3)))) else (if v2 = 5 then ((fX7_requiredBits ((12 * j4 + zn v1)) x3).bind (fun x9 => some ((x9, x3)))) else (if v2 = 6 then ((fX0_bitsOfAll v1 x3).bind (fun x8 => some ((x8, x3)))) else (if v2 = 7 then ((fX0_bitsOf v1 1 x3).bind (fun x7 => some ((x7, x3)))) else (if v2 = 8 then ((fX0_bitsOf v1 2 x3).bind (fun x6 => some ((x6, x3)))) else (if v2 = 9 then ((fX0_bitsOf v1 3 x3).bind (fun x5 => some ((x5, x3)))) else (some (((-1), x3))))))))))))))))))
theorem wX9_unit {E : zE} {d : Nat} (hd : 5 ≤ d) {Q : Option zV → zM → Prop} {v1 : Int32} {v2 : Int32} {mm : zM} {o : (Int32 × zM)} (h : fX9_unit v1 v2 mm = some o) (hQ : ∀ r, o = r → Q (some (zI r.1)) r.2) : V E RX9 cX9_unit 4 (some .int) d Q 0 [some (zK 9 0), some (zI v1), some (zI v2), none] [] mm := by
  unfold fX9_unit at h
  refine V_aload_n 1 rfl 0 dX9_unit_0 rfl rfl ?_
  obtain ⟨j1, hj, h⟩ := zbd h
  refine V_getm 4 rfl 8 dX9_unit_1 fl_X9_16 rfl rfl hj ?_
  refine V_iload_n 5 rfl 1 dX9_unit_4 rfl rfl ?_
  obtain ⟨x2, h1, h⟩ := zbd h
  refine V_cV 8 rfl 0 [zI v1] [] dX9_unit_5 cv_X9_127 (ctX8_isUnit (Nat.le_refl 0) h1) (Nat.le_trans (by decide) hd) rfl rfl (Nat.le_of_ble_eq_true rfl) zoki rfl ?_
  refine V_if_ne 11 13 rfl dX9_unit_8 (by decide) (fun c => ?_) (fun c => ?_)
  · have h := zneg c h
    refine V_aload_n 14 rfl 0 dX9_unit_13 rfl rfl ?_
    obtain ⟨x3, h1, h⟩ := zbd h
    refine V_cV 17 rfl 4 [] [] dX9_unit_14 cv_X9_201 (ctX9_settle (Nat.le_refl 4) h1) (Nat.le_trans (by decide) hd) rfl rfl (Nat.le_of_ble_eq_true rfl) zokn rfl ?_
    refine V_aload_n 18 rfl 0 dX9_unit_17 rfl rfl ?_
    obtain ⟨j4, hj, h⟩ := zbd h
    refine V_getm 21 rfl 8 dX9_unit_18 fl_X9_16 rfl rfl hj ?_
    refine V_getr 24 rfl 35 j4 dX9_unit_21 fl_X9_98 rfl rfl rfl ?_
    refine V_iload_n 25 rfl 1 dX9_unit_24 rfl rfl ?_
    obtain ⟨hi, h⟩ := zobd h
    refine V_aald 26 rfl 7 (12 * j4 + zn v1) dX9_unit_25 rfl (by decide) (by decide) rfl rfl hi ?_
    refine V_astore_n 27 rfl 3 (L' := [some (zK 9 0), some (zI v1), some (zI v2), some (zK 7 (12 * j4 + zn v1))]) dX9_unit_26 rfl (by decide) rfl ?_
    refine V_iload_n 28 rfl 2 dX9_unit_27 rfl rfl ?_
    by_cases h_0 : v2 = 0
    · have h := zpos h_0 h
      refine V_tabIn 84 (off := 56) dX9_unit_28 (by rw [h_0]; decide) (by rw [h_0]; decide) (by rw [h_0]; decide) (by decide) ?_
      refine V_aload_n 85 rfl 3 dX9_unit_84 rfl rfl ?_
      refine V_geti 88 rfl dX9_unit_85 fl_X9_204 rfl ?_
      refine V_if_eq 91 95 rfl dX9_unit_88 (by decide) (fun c => ?_) (fun c => ?_)
      · have h := zpos c h
        refine V_iconst 96 rfl (v := 0) dX9_unit_95 (by decide) ?_
        exact V_iret dX9_unit_96 rfl (hQ ((0, x3)) (zinj h))
      · have h := zneg c h
        refine V_iconst 92 rfl (v := 1) dX9_unit_91 (by decide) ?_
        refine V_goto 96 dX9_unit_92 (by decide) ?_
        exact V_iret dX9_unit_96 rfl (hQ ((1, x3)) (zinj h))
    · have h := zneg h_0 h
      by_cases h_1 : v2 = 1
      · have h := zpos h_1 h
        refine V_tabIn 97 (off := 69) dX9_unit_28 (by rw [h_1]; decide) (by rw [h_1]; decide) (by rw [h_1]; decide) (by decide) ?_
        refine V_aload_n 98 rfl 3 dX9_unit_97 rfl rfl ?_
        refine V_geti 101 rfl dX9_unit_98 fl_X9_207 rfl ?_
        exact V_iret dX9_unit_101 rfl (hQ (((gi x3 7 (12 * j4 + zn v1) 1), x3)) (zinj h))
      · have h := zneg h_1 h
        by_cases h_2 : v2 = 2
        · have h := zpos h_2 h
          refine V_tabIn 102 (off := 74) dX9_unit_28 (by rw [h_2]; decide) (by rw [h_2]; decide) (by rw [h_2]; decide) (by decide) ?_
          refine V_aload_n 103 rfl 3 dX9_unit_102 rfl rfl ?_
          refine V_getr 106 rfl 5 (2 * (12 * j4 + zn v1)) dX9_unit_103 fl_X9_102 rfl rfl rfl ?_
          refine V_geti 109 rfl dX9_unit_106 fl_X9_114 rfl ?_
          exact V_iret dX9_unit_109 rfl (hQ (((gi x3 5 (2 * (12 * j4 + zn v1)) 1), x3)) (zinj h))
        · have h := zneg h_2 h
          by_cases h_3 : v2 = 3
          · have h := zpos h_3 h
            refine V_tabIn 110 (off := 82) dX9_unit_28 (by rw [h_3]; decide) (by rw [h_3]; decide) (by rw [h_3]; decide) (by decide) ?_
            refine V_aload_n 111 rfl 3 dX9_unit_110 rfl rfl ?_
            refine V_getr 114 rfl 5 (2 * (12 * j4 + zn v1) + 1) dX9_unit_111 fl_X9_166 rfl rfl rfl ?_
            refine V_geti 117 rfl dX9_unit_114 fl_X9_114 rfl ?_
            exact V_iret dX9_unit_117 rfl (hQ (((gi x3 5 (2 * (12 * j4 + zn v1) + 1) 1), x3)) (zinj h))
          · have h := zneg h_3 h
            by_cases h_4 : v2 = 4
            · have h := zpos h_4 h
              refine V_tabIn 118 (off := 90) dX9_unit_28 (by rw [h_4]; decide) (by rw [h_4]; decide) (by rw [h_4]; decide) (by decide) ?_
              refine V_aload_n 119 rfl 3 dX9_unit_118 rfl rfl ?_
              obtain ⟨x10, h1, h⟩ := zbd h
              refine V_cV 122 rfl 1 [] [] dX9_unit_119 cv_X9_210 (ctX7_toldBits (Nat.le_refl 1) h1) (Nat.le_trans (by decide) hd) rfl rfl (Nat.le_of_ble_eq_true rfl) zoki rfl ?_
              exact V_iret dX9_unit_122 rfl (hQ ((x10, x3)) (zinj h))
            · have h := zneg h_4 h
              by_cases h_5 : v2 = 5
              · have h := zpos h_5 h
                refine V_tabIn 123 (off := 95) dX9_unit_28 (by rw [h_5]; decide) (by rw [h_5]; decide) (by rw [h_5]; decide) (by decide) ?_
                refine V_aload_n 124 rfl 3 dX9_unit_123 rfl rfl ?_
                obtain ⟨x9, h1, h⟩ := zbd h
                refine V_cV 127 rfl 1 [] [] dX9_unit_124 cv_X9_214 (ctX7_requiredBits (Nat.le_refl 1) h1) (Nat.le_trans (by decide) hd) rfl rfl (Nat.le_of_ble_eq_true rfl) zoki rfl ?_
                exact V_iret dX9_unit_127 rfl (hQ ((x9, x3)) (zinj h))
              · have h := zneg h_5 h
                by_cases h_6 : v2 = 6
                · have h := zpos h_6 h
                  refine V_tabIn 128 (off := 100) dX9_unit_28 (by rw [h_6]; decide) (by rw [h_6]; decide) (by rw [h_6]; decide) (by decide) ?_
                  refine V_aload_n 129 rfl 0 dX9_unit_128 rfl rfl ?_
                  refine V_getr 132 rfl 0 0 dX9_unit_129 fl_X9_44 rfl rfl rfl ?_
                  refine V_iload_n 133 rfl 1 dX9_unit_132 rfl rfl ?_
                  obtain ⟨x8, h1, h⟩ := zbd h
                  refine V_cV 136 rfl 2 [zI v1] [] dX9_unit_133 cv_X9_217 (ctX0_bitsOfAll (Nat.le_refl 2) h1) (Nat.le_trans (by decide) hd) rfl rfl (Nat.le_of_ble_eq_true rfl) zoki rfl ?_
                  exact V_iret dX9_unit_136 rfl (hQ ((x8, x3)) (zinj h))
                · have h := zneg h_6 h
                  by_cases h_7 : v2 = 7
                  · have h := zpos h_7 h
                    refine V_tabIn 137 (off := 109) dX9_unit_28 (by rw [h_7]; decide) (by rw [h_7]; decide) (by rw [h_7]; decide) (by decide) ?_
                    refine V_aload_n 138 rfl 0 dX9_unit_137 rfl rfl ?_
                    refine V_getr 141 rfl 0 0 dX9_unit_138 fl_X9_44 rfl rfl rfl ?_
                    refine V_iload_n 142 rfl 1 dX9_unit_141 rfl rfl ?_
                    refine V_iconst 143 rfl (v := 1) dX9_unit_142 (by decide) ?_
                    obtain ⟨x7, h1, h⟩ := zbd h
                    refine V_cV 146 rfl 1 [zI v1, zI 1] [] dX9_unit_143 cv_X9_220 (ctX0_bitsOf (Nat.le_refl 1) h1) (Nat.le_trans (by decide) hd) rfl rfl (Nat.le_of_ble_eq_true rfl) zoki rfl ?_
                    exact V_iret dX9_unit_146 rfl (hQ ((x7, x3)) (zinj h))
                  · have h := zneg h_7 h
                    by_cases h_8 : v2 = 8
                    · have h := zpos h_8 h
                      refine V_tabIn 147 (off := 119) dX9_unit_28 (by rw [h_8]; decide) (by rw [h_8]; decide) (by rw [h_8]; decide) (by decide) ?_
                      refine V_aload_n 148 rfl 0 dX9_unit_147 rfl rfl ?_
                      refine V_getr 151 rfl 0 0 dX9_unit_148 fl_X9_44 rfl rfl rfl ?_
                      refine V_iload_n 152 rfl 1 dX9_unit_151 rfl rfl ?_
                      refine V_iconst 153 rfl (v := 2) dX9_unit_152 (by decide) ?_
                      obtain ⟨x6, h1, h⟩ := zbd h
                      refine V_cV 156 rfl 1 [zI v1, zI 2] [] dX9_unit_153 cv_X9_220 (ctX0_bitsOf (Nat.le_refl 1) h1) (Nat.le_trans (by decide) hd) rfl rfl (Nat.le_of_ble_eq_true rfl) zoki rfl ?_
                      exact V_iret dX9_unit_156 rfl (hQ ((x6, x3)) (zinj h))
                    · have h := zneg h_8 h
                      by_cases h_9 : v2 = 9
                      · have h := zpos h_9 h
                        refine V_tabIn 157 (off := 129) dX9_unit_28 (by rw [h_9]; decide) (by rw [h_9]; decide) (by rw [h_9]; decide) (by decide) ?_
                        refine V_aload_n 158 rfl 0 dX9_unit_157 rfl rfl ?_
                        refine V_getr 161 rfl 0 0 dX9_unit_158 fl_X9_44 rfl rfl rfl ?_
                        refine V_iload_n 162 rfl 1 dX9_unit_161 rfl rfl ?_
                        refine V_iconst 163 rfl (v := 3) dX9_unit_162 (by decide) ?_
                        obtain ⟨x5, h1, h⟩ := zbd h
                        refine V_cV 166 rfl 1 [zI v1, zI 3] [] dX9_unit_163 cv_X9_220 (ctX0_bitsOf (Nat.le_refl 1) h1) (Nat.le_trans (by decide) hd) rfl rfl (Nat.le_of_ble_eq_true rfl) zoki rfl ?_
                        exact V_iret dX9_unit_166 rfl (hQ ((x5, x3)) (zinj h))
                      · have h := zneg h_9 h
                        refine V_tabOut 167 dX9_unit_28 (by have n0 := zne h_0; simp only [show ((0 : Int32)).toInt = 0 from by decide] at n0; have n1 := zne h_1; simp only [show ((1 : Int32)).toInt = 1 from by decide] at n1; have n2 := zne h_2; simp only [show ((2 : Int32)).toInt = 2 from by decide] at n2; have n3 := zne h_3; simp only [show ((3 : Int32)).toInt = 3 from by decide] at n3; have n4 := zne h_4; simp only [show ((4 : Int32)).toInt = 4 from by decide] at n4; have n5 := zne h_5; simp only [show ((5 : Int32)).toInt = 5 from by decide] at n5; have n6 := zne h_6; simp only [show ((6 : Int32)).toInt = 6 from by decide] at n6; have n7 := zne h_7; simp only [show ((7 : Int32)).toInt = 7 from by decide] at n7; have n8 := zne h_8; simp only [show ((8 : Int32)).toInt = 8 from by decide] at n8; have n9 := zne h_9; simp only [show ((9 : Int32)).toInt = 9 from by decide] at n9; omega) (by decide) ?_
                        refine V_iconst 168 rfl (v := (-1)) dX9_unit_167 (by decide) ?_
                        exact V_iret dX9_unit_168 rfl (hQ (((-1), x3)) (zinj h))
  · have h := zpos c h
    refine V_iconst 12 rfl (v := (-1)) dX9_unit_11 (by decide) ?_
    exact V_iret dX9_unit_12 rfl (hQ (((-1), mm)) (zinj h))
theorem ctX9_unit {E : zE} {d : Nat} (hd : 5 ≤ d) {v1 : Int32} {v2 : Int32} {mm : zM} {o : (Int32 × zM)} (h : fX9_unit v1 v2 mm = some o) : zOC E yX9_unit cX9_unit 4 (some .int) d [zK 9 0, zI v1, zI v2] mm (some (zI o.1)) o.2 :=
  zCT_of (by decide) (Nat.le_of_ble_eq_true rfl) (zk_k (zk_i (zk_i zk_0))) rfl (wX9_unit hd h (fun r e => ⟨by rw [e], by rw [e]⟩))
def fX9_parent (v1 : Int32) (v2 : Int32) (mm : zM) : Option Int32 :=
  (gr mm 9 2).bind (fun j1 => (fX8_isType j1 v1 mm).bind (fun x2 => if x2 = 0 then (some ((-1))) else ((gr mm 9 2).bind (fun j3 => zob (zin v1 12) ((fX5_itemAt ((2 * (12 * j3 + zn v1))) v2 mm).bind (fun x4 => some x4))))))
theorem wX9_parent {E : zE} {d : Nat} (hd : 2 ≤ d) {Q : Option zV → zM → Prop} {v1 : Int32} {v2 : Int32} {mm : zM} {o : Int32} (h : fX9_parent v1 v2 mm = some o) (hQ : ∀ r, o = r → Q (some (zI r)) mm) : V E RX9 cX9_parent 3 (some .int) d Q 0 [some (zK 9 0), some (zI v1), some (zI v2)] [] mm := by
  unfold fX9_parent at h
  refine V_aload_n 1 rfl 0 dX9_parent_0 rfl rfl ?_
  obtain ⟨j1, hj, h⟩ := zbd h
  refine V_getm 4 rfl 8 dX9_parent_1 fl_X9_16 rfl rfl hj ?_
  refine V_iload_n 5 rfl 1 dX9_parent_4 rfl rfl ?_
  obtain ⟨x2, h1, h⟩ := zbd h
  refine V_cV 8 rfl 1 [zI v1] [] dX9_parent_5 cv_X9_94 (ctX8_isType (Nat.le_refl 1) h1) (Nat.le_trans (by decide) hd) rfl rfl (Nat.le_of_ble_eq_true rfl) zoki rfl ?_
  refine V_if_eq 11 30 rfl dX9_parent_8 (by decide) (fun c => ?_) (fun c => ?_)
  · have h := zpos c h
    refine V_iconst 31 rfl (v := (-1)) dX9_parent_30 (by decide) ?_
    exact V_iret dX9_parent_31 rfl (hQ ((-1)) (zinj h))
  · have h := zneg c h
    refine V_aload_n 12 rfl 0 dX9_parent_11 rfl rfl ?_
    obtain ⟨j3, hj, h⟩ := zbd h
    refine V_getm 15 rfl 8 dX9_parent_12 fl_X9_16 rfl rfl hj ?_
    refine V_getr 18 rfl 35 j3 dX9_parent_15 fl_X9_98 rfl rfl rfl ?_
    refine V_iload_n 19 rfl 1 dX9_parent_18 rfl rfl ?_
    obtain ⟨hi, h⟩ := zobd h
    refine V_aald 20 rfl 7 (12 * j3 + zn v1) dX9_parent_19 rfl (by decide) (by decide) rfl rfl hi ?_
    refine V_getr 23 rfl 5 (2 * (12 * j3 + zn v1)) dX9_parent_20 fl_X9_102 rfl rfl rfl ?_
    refine V_iload_n 24 rfl 2 dX9_parent_23 rfl rfl ?_
    obtain ⟨x4, h1, h⟩ := zbd h
    refine V_cV 27 rfl 0 [zI v2] [] dX9_parent_24 cv_X9_223 (ctX5_itemAt (Nat.le_refl 0) h1) (Nat.le_trans (by decide) hd) rfl rfl (Nat.le_of_ble_eq_true rfl) zoki rfl ?_
    refine V_goto 31 dX9_parent_27 (by decide) ?_
    exact V_iret dX9_parent_31 rfl (hQ x4 (zinj h))
theorem ctX9_parent {E : zE} {d : Nat} (hd : 2 ≤ d) {v1 : Int32} {v2 : Int32} {mm : zM} {o : Int32} (h : fX9_parent v1 v2 mm = some o) : zOC E yX9_parent cX9_parent 3 (some .int) d [zK 9 0, zI v1, zI v2] mm (some (zI o)) mm :=
  zCT_of (by decide) (Nat.le_of_ble_eq_true rfl) (zk_k (zk_i (zk_i zk_0))) rfl (wX9_parent hd h (fun r e => ⟨by rw [e], rfl⟩))
def fX9_used (v1 : Int32) (v2 : Int32) (mm : zM) : Option Int32 :=
  (gr mm 9 2).bind (fun j1 => (fX8_isUnit j1 v1 mm).bind (fun x2 => if x2 = 0 then (some ((-1))) else ((gr mm 9 2).bind (fun j3 => zob (zin v1 12) ((fX5_itemAt ((2 * (12 * j3 + zn v1) + 1)) v2 mm).bind (fun x4 => some x4))))))
theorem wX9_used {E : zE} {d : Nat} (hd : 1 ≤ d) {Q : Option zV → zM → Prop} {v1 : Int32} {v2 : Int32} {mm : zM} {o : Int32} (h : fX9_used v1 v2 mm = some o) (hQ : ∀ r, o = r → Q (some (zI r)) mm) : V E RX9 cX9_used 3 (some .int) d Q 0 [some (zK 9 0), some (zI v1), some (zI v2)] [] mm := by
  unfold fX9_used at h
  refine V_aload_n 1 rfl 0 dX9_used_0 rfl rfl ?_
  obtain ⟨j1, hj, h⟩ := zbd h
  refine V_getm 4 rfl 8 dX9_used_1 fl_X9_16 rfl rfl hj ?_
  refine V_iload_n 5 rfl 1 dX9_used_4 rfl rfl ?_
  obtain ⟨x2, h1, h⟩ := zbd h
  refine V_cV 8 rfl 0 [zI v1] [] dX9_used_5 cv_X9_127 (ctX8_isUnit (Nat.le_refl 0) h1) (Nat.le_trans (by decide) hd) rfl rfl (Nat.le_of_ble_eq_true rfl) zoki rfl ?_
  refine V_if_eq 11 30 rfl dX9_used_8 (by decide) (fun c => ?_) (fun c => ?_)
  · have h := zpos c h
    refine V_iconst 31 rfl (v := (-1)) dX9_used_30 (by decide) ?_
    exact V_iret dX9_used_31 rfl (hQ ((-1)) (zinj h))
  · have h := zneg c h
    refine V_aload_n 12 rfl 0 dX9_used_11 rfl rfl ?_
    obtain ⟨j3, hj, h⟩ := zbd h
    refine V_getm 15 rfl 8 dX9_used_12 fl_X9_16 rfl rfl hj ?_
    refine V_getr 18 rfl 35 j3 dX9_used_15 fl_X9_98 rfl rfl rfl ?_
    refine V_iload_n 19 rfl 1 dX9_used_18 rfl rfl ?_
    obtain ⟨hi, h⟩ := zobd h
    refine V_aald 20 rfl 7 (12 * j3 + zn v1) dX9_used_19 rfl (by decide) (by decide) rfl rfl hi ?_
    refine V_getr 23 rfl 5 (2 * (12 * j3 + zn v1) + 1) dX9_used_20 fl_X9_166 rfl rfl rfl ?_
    refine V_iload_n 24 rfl 2 dX9_used_23 rfl rfl ?_
    obtain ⟨x4, h1, h⟩ := zbd h
    refine V_cV 27 rfl 0 [zI v2] [] dX9_used_24 cv_X9_223 (ctX5_itemAt (Nat.le_refl 0) h1) (Nat.le_trans (by decide) hd) rfl rfl (Nat.le_of_ble_eq_true rfl) zoki rfl ?_
    refine V_goto 31 dX9_used_27 (by decide) ?_
    exact V_iret dX9_used_31 rfl (hQ x4 (zinj h))
theorem ctX9_used {E : zE} {d : Nat} (hd : 1 ≤ d) {v1 : Int32} {v2 : Int32} {mm : zM} {o : Int32} (h : fX9_used v1 v2 mm = some o) : zOC E yX9_used cX9_used 3 (some .int) d [zK 9 0, zI v1, zI v2] mm (some (zI o)) mm :=
  zCT_of (by decide) (Nat.le_of_ble_eq_true rfl) (zk_k (zk_i (zk_i zk_0))) rfl (wX9_used hd h (fun r e => ⟨by rw [e], rfl⟩))
def fX9_becomes (v1 : Int32) (v2 : Int32) (v3 : Int32) (mm : zM) : Option Int32 :=
  (gr mm 9 2).bind (fun j1 => (fX8_isUnit j1 v1 mm).bind (fun x2 => if x2 = 0 then (some ((-1))) else ((fX9_isLetter v3 mm).bind (fun x3 => if x3 = 0 then (some ((-1))) else ((gr mm 9 2).bind (fun j4 => zob (zin v1 12) (if v2 < 0 then (some ((-1))) else (if v2 < (gi mm 5 (2 * (12 * j4 + zn v1) + 1) 1) then ((fX7_letterThere ((12 * j4 + zn v1)) v2 v3 mm).bind (fun x5 => if x5 = (-1) then (some ((-2))) else (some x5))) else (some ((-1)))))))))))
theorem wX9_becomes {E : zE} {d : Nat} (hd : 1 ≤ d) {Q : Option zV → zM → Prop} {v1 : Int32} {v2 : Int32} {v3 : Int32} {mm : zM} {o : Int32} (h : fX9_becomes v1 v2 v3 mm = some o) (hQ : ∀ r, o = r → Q (some (zI r)) mm) : V E RX9 cX9_becomes 6 (some .int) d Q 0 [some (zK 9 0), some (zI v1), some (zI v2), some (zI v3), none, none] [] mm := by
  unfold fX9_becomes at h
  refine V_aload_n 1 rfl 0 dX9_becomes_0 rfl rfl ?_
  obtain ⟨j1, hj, h⟩ := zbd h
  refine V_getm 4 rfl 8 dX9_becomes_1 fl_X9_16 rfl rfl hj ?_
  refine V_iload_n 5 rfl 1 dX9_becomes_4 rfl rfl ?_
  obtain ⟨x2, h1, h⟩ := zbd h
  refine V_cV 8 rfl 0 [zI v1] [] dX9_becomes_5 cv_X9_127 (ctX8_isUnit (Nat.le_refl 0) h1) (Nat.le_trans (by decide) hd) rfl rfl (Nat.le_of_ble_eq_true rfl) zoki rfl ?_
  refine V_if_eq 11 18 rfl dX9_becomes_8 (by decide) (fun c => ?_) (fun c => ?_)
  · have h := zpos c h
    refine V_iconst 19 rfl (v := (-1)) dX9_becomes_18 (by decide) ?_
    exact V_iret dX9_becomes_19 rfl (hQ ((-1)) (zinj h))
  · have h := zneg c h
    refine V_iload_n 12 rfl 3 dX9_becomes_11 rfl rfl ?_
    obtain ⟨x3, h1, h⟩ := zbd h
    refine V_cS 15 rfl 0 [zI v3] [] dX9_becomes_12 cs_X9_130 (ctX9_isLetter (Nat.le_refl 0) h1) (Nat.le_trans (by decide) hd) rfl rfl (Nat.le_of_ble_eq_true rfl) zoki rfl ?_
    refine V_if_ne 18 20 rfl dX9_becomes_15 (by decide) (fun c => ?_) (fun c => ?_)
    · have h := zneg c h
      refine V_aload_n 21 rfl 0 dX9_becomes_20 rfl rfl ?_
      obtain ⟨j4, hj, h⟩ := zbd h
      refine V_getm 24 rfl 8 dX9_becomes_21 fl_X9_16 rfl rfl hj ?_
      refine V_getr 27 rfl 35 j4 dX9_becomes_24 fl_X9_98 rfl rfl rfl ?_
      refine V_iload_n 28 rfl 1 dX9_becomes_27 rfl rfl ?_
      obtain ⟨hi, h⟩ := zobd h
      refine V_aald 29 rfl 7 (12 * j4 + zn v1) dX9_becomes_28 rfl (by decide) (by decide) rfl rfl hi ?_
      refine V_astore 31 rfl (L' := [some (zK 9 0), some (zI v1), some (zI v2), some (zI v3), some (zK 7 (12 * j4 + zn v1)), none]) dX9_becomes_29 (by decide) rfl ?_
      refine V_iload_n 32 rfl 2 dX9_becomes_31 rfl rfl ?_
      refine V_if_lt 35 47 rfl dX9_becomes_32 (by decide) (fun c => ?_) (fun c => ?_)
      · have h := zpos c h
        refine V_iconst 48 rfl (v := (-1)) dX9_becomes_47 (by decide) ?_
        exact V_iret dX9_becomes_48 rfl (hQ ((-1)) (zinj h))
      · have h := zneg c h
        refine V_iload_n 36 rfl 2 dX9_becomes_35 rfl rfl ?_
        refine V_aload 38 rfl dX9_becomes_36 rfl ?_
        refine V_getr 41 rfl 5 (2 * (12 * j4 + zn v1) + 1) dX9_becomes_38 fl_X9_166 rfl rfl rfl ?_
        refine V_geti 44 rfl dX9_becomes_41 fl_X9_114 rfl ?_
        refine V_icmp_lt 47 49 rfl dX9_becomes_44 (by decide) (fun c => ?_) (fun c => ?_)
        · have h := zpos c h
          refine V_aload 51 rfl dX9_becomes_49 rfl ?_
          refine V_iload_n 52 rfl 2 dX9_becomes_51 rfl rfl ?_
          refine V_iload_n 53 rfl 3 dX9_becomes_52 rfl rfl ?_
          obtain ⟨x5, h1, h⟩ := zbd h
          refine V_cV 56 rfl 0 [zI v2, zI v3] [] dX9_becomes_53 cv_X9_172 (ctX7_letterThere (Nat.le_refl 0) h1) (Nat.le_trans (by decide) hd) rfl rfl (Nat.le_of_ble_eq_true rfl) zoki rfl ?_
          refine V_istore 58 rfl (L' := [some (zK 9 0), some (zI v1), some (zI v2), some (zI v3), some (zK 7 (12 * j4 + zn v1)), some (zI x5)]) dX9_becomes_56 (by decide) rfl ?_
          refine V_iload 60 rfl dX9_becomes_58 rfl ?_
          refine V_iconst 61 rfl (v := (-1)) dX9_becomes_60 (by decide) ?_
          refine V_icmp_ne 64 69 rfl dX9_becomes_61 (by decide) (fun c => ?_) (fun c => ?_)
          · have h := zneg c h
            refine V_iload 71 rfl dX9_becomes_69 rfl ?_
            exact V_iret dX9_becomes_71 rfl (hQ x5 (zinj h))
          · have h := zpos c h
            refine V_bipush 66 rfl (v := (-2)) dX9_becomes_64 (by decide) ?_
            refine V_goto 71 dX9_becomes_66 (by decide) ?_
            exact V_iret dX9_becomes_71 rfl (hQ ((-2)) (zinj h))
        · have h := zneg c h
          refine V_iconst 48 rfl (v := (-1)) dX9_becomes_47 (by decide) ?_
          exact V_iret dX9_becomes_48 rfl (hQ ((-1)) (zinj h))
    · have h := zpos c h
      refine V_iconst 19 rfl (v := (-1)) dX9_becomes_18 (by decide) ?_
      exact V_iret dX9_becomes_19 rfl (hQ ((-1)) (zinj h))
theorem ctX9_becomes {E : zE} {d : Nat} (hd : 1 ≤ d) {v1 : Int32} {v2 : Int32} {v3 : Int32} {mm : zM} {o : Int32} (h : fX9_becomes v1 v2 v3 mm = some o) : zOC E yX9_becomes cX9_becomes 6 (some .int) d [zK 9 0, zI v1, zI v2, zI v3] mm (some (zI o)) mm :=
  zCT_of (by decide) (Nat.le_of_ble_eq_true rfl) (zk_k (zk_i (zk_i (zk_i zk_0)))) rfl (wX9_becomes hd h (fun r e => ⟨by rw [e], rfl⟩))
def fX9_body (v1 : Int32) (v2 : Int32) (v3 : Int32) (mm : zM) : Option Int32 :=
  (gr mm 9 2).bind (fun j1 => (fX8_isUnit j1 v1 mm).bind (fun x2 => if x2 = 0 then (some ((-1))) else ((fX9_isLetter v2 mm).bind (fun x3 => if x3 = 0 then (some ((-1))) else (if (-1) ≤ v3 then ((gr mm 9 2).bind (fun j4 => zob (zin v1 12) ((fX7_tells ((12 * j4 + zn v1)) v2 mm).bind (fun x5 => if x5 = 0 then (some ((-1))) else (zob (zin v2 26) (if v3 = (-1) then (some ((gi mm 32 (12 * j4 + zn v1) (zn v2)))) else (if (gi mm 32 (12 * j4 + zn v1) (zn v2)) ≤ v3 then (some ((-2))) else ((fX7_termAt ((12 * j4 + zn v1)) v2 v3 mm).bind (fun x6 => some x6))))))))) else (some ((-1))))))))
theorem wX9_body {E : zE} {d : Nat} (hd : 1 ≤ d) {Q : Option zV → zM → Prop} {v1 : Int32} {v2 : Int32} {v3 : Int32} {mm : zM} {o : Int32} (h : fX9_body v1 v2 v3 mm = some o) (hQ : ∀ r, o = r → Q (some (zI r)) mm) : V E RX9 cX9_body 6 (some .int) d Q 0 [some (zK 9 0), some (zI v1), some (zI v2), some (zI v3), none, none] [] mm := by
  unfold fX9_body at h
  refine V_aload_n 1 rfl 0 dX9_body_0 rfl rfl ?_
  obtain ⟨j1, hj, h⟩ := zbd h
  refine V_getm 4 rfl 8 dX9_body_1 fl_X9_16 rfl rfl hj ?_
  refine V_iload_n 5 rfl 1 dX9_body_4 rfl rfl ?_
  obtain ⟨x2, h1, h⟩ := zbd h
  refine V_cV 8 rfl 0 [zI v1] [] dX9_body_5 cv_X9_127 (ctX8_isUnit (Nat.le_refl 0) h1) (Nat.le_trans (by decide) hd) rfl rfl (Nat.le_of_ble_eq_true rfl) zoki rfl ?_
  refine V_if_eq 11 23 rfl dX9_body_8 (by decide) (fun c => ?_) (fun c => ?_)
  · have h := zpos c h
    refine V_iconst 24 rfl (v := (-1)) dX9_body_23 (by decide) ?_
    exact V_iret dX9_body_24 rfl (hQ ((-1)) (zinj h))
  · have h := zneg c h
    refine V_iload_n 12 rfl 2 dX9_body_11 rfl rfl ?_
    obtain ⟨x3, h1, h⟩ := zbd h
    refine V_cS 15 rfl 0 [zI v2] [] dX9_body_12 cs_X9_130 (ctX9_isLetter (Nat.le_refl 0) h1) (Nat.le_trans (by decide) hd) rfl rfl (Nat.le_of_ble_eq_true rfl) zoki rfl ?_
    refine V_if_eq 18 23 rfl dX9_body_15 (by decide) (fun c => ?_) (fun c => ?_)
    · have h := zpos c h
      refine V_iconst 24 rfl (v := (-1)) dX9_body_23 (by decide) ?_
      exact V_iret dX9_body_24 rfl (hQ ((-1)) (zinj h))
    · have h := zneg c h
      refine V_iload_n 19 rfl 3 dX9_body_18 rfl rfl ?_
      refine V_iconst 20 rfl (v := (-1)) dX9_body_19 (by decide) ?_
      refine V_icmp_ge 23 25 rfl dX9_body_20 (by decide) (fun c => ?_) (fun c => ?_)
      · have h := zpos c h
        refine V_aload_n 26 rfl 0 dX9_body_25 rfl rfl ?_
        obtain ⟨j4, hj, h⟩ := zbd h
        refine V_getm 29 rfl 8 dX9_body_26 fl_X9_16 rfl rfl hj ?_
        refine V_getr 32 rfl 35 j4 dX9_body_29 fl_X9_98 rfl rfl rfl ?_
        refine V_iload_n 33 rfl 1 dX9_body_32 rfl rfl ?_
        obtain ⟨hi, h⟩ := zobd h
        refine V_aald 34 rfl 7 (12 * j4 + zn v1) dX9_body_33 rfl (by decide) (by decide) rfl rfl hi ?_
        refine V_astore 36 rfl (L' := [some (zK 9 0), some (zI v1), some (zI v2), some (zI v3), some (zK 7 (12 * j4 + zn v1)), none]) dX9_body_34 (by decide) rfl ?_
        refine V_aload 38 rfl dX9_body_36 rfl ?_
        refine V_iload_n 39 rfl 2 dX9_body_38 rfl rfl ?_
        obtain ⟨x5, h1, h⟩ := zbd h
        refine V_cV 42 rfl 0 [zI v2] [] dX9_body_39 cv_X9_151 (ctX7_tells (Nat.le_refl 0) h1) (Nat.le_trans (by decide) hd) rfl rfl (Nat.le_of_ble_eq_true rfl) zoki rfl ?_
        refine V_if_ne 45 47 rfl dX9_body_42 (by decide) (fun c => ?_) (fun c => ?_)
        · have h := zneg c h
          refine V_aload 49 rfl dX9_body_47 rfl ?_
          refine V_getr 52 rfl 32 (12 * j4 + zn v1) dX9_body_49 fl_X9_133 rfl rfl rfl ?_
          refine V_iload_n 53 rfl 2 dX9_body_52 rfl rfl ?_
          obtain ⟨hi, h⟩ := zobd h
          refine V_iald 54 rfl dX9_body_53 rfl hi ?_
          refine V_istore 56 rfl (L' := [some (zK 9 0), some (zI v1), some (zI v2), some (zI v3), some (zK 7 (12 * j4 + zn v1)), some (zI (gi mm 32 (12 * j4 + zn v1) (zn v2)))]) dX9_body_54 (by decide) rfl ?_
          refine V_iload_n 57 rfl 3 dX9_body_56 rfl rfl ?_
          refine V_iconst 58 rfl (v := (-1)) dX9_body_57 (by decide) ?_
          refine V_icmp_ne 61 64 rfl dX9_body_58 (by decide) (fun c => ?_) (fun c => ?_)
          · have h := zneg c h
            refine V_iload_n 65 rfl 3 dX9_body_64 rfl rfl ?_
            refine V_iload 67 rfl dX9_body_65 rfl ?_
            refine V_icmp_ge 70 80 rfl dX9_body_67 (by decide) (fun c => ?_) (fun c => ?_)
            · have h := zpos c h
              refine V_bipush 82 rfl (v := (-2)) dX9_body_80 (by decide) ?_
              exact V_iret dX9_body_82 rfl (hQ ((-2)) (zinj h))
            · have h := zneg c h
              refine V_aload 72 rfl dX9_body_70 rfl ?_
              refine V_iload_n 73 rfl 2 dX9_body_72 rfl rfl ?_
              refine V_iload_n 74 rfl 3 dX9_body_73 rfl rfl ?_
              obtain ⟨x6, h1, h⟩ := zbd h
              refine V_cV 77 rfl 0 [zI v2, zI v3] [] dX9_body_74 cv_X9_137 (ctX7_termAt (Nat.le_refl 0) h1) (Nat.le_trans (by decide) hd) rfl rfl (Nat.le_of_ble_eq_true rfl) zoki rfl ?_
              refine V_goto 82 dX9_body_77 (by decide) ?_
              exact V_iret dX9_body_82 rfl (hQ x6 (zinj h))
          · have h := zpos c h
            refine V_iload 63 rfl dX9_body_61 rfl ?_
            exact V_iret dX9_body_63 rfl (hQ ((gi mm 32 (12 * j4 + zn v1) (zn v2))) (zinj h))
        · have h := zpos c h
          refine V_iconst 46 rfl (v := (-1)) dX9_body_45 (by decide) ?_
          exact V_iret dX9_body_46 rfl (hQ ((-1)) (zinj h))
      · have h := zneg c h
        refine V_iconst 24 rfl (v := (-1)) dX9_body_23 (by decide) ?_
        exact V_iret dX9_body_24 rfl (hQ ((-1)) (zinj h))
theorem ctX9_body {E : zE} {d : Nat} (hd : 1 ≤ d) {v1 : Int32} {v2 : Int32} {v3 : Int32} {mm : zM} {o : Int32} (h : fX9_body v1 v2 v3 mm = some o) : zOC E yX9_body cX9_body 6 (some .int) d [zK 9 0, zI v1, zI v2, zI v3] mm (some (zI o)) mm :=
  zCT_of (by decide) (Nat.le_of_ble_eq_true rfl) (zk_k (zk_i (zk_i (zk_i zk_0)))) rfl (wX9_body hd h (fun r e => ⟨by rw [e], rfl⟩))
def fX0_secondSource (v1 : Int32) (v2 : Int32) (mm : zM) : Option Int32 :=
  zob (zin ((((v1 * 26)) + v2)) 312) (some ((gi mm 13 0 (zn ((((v1 * 26)) + v2))))))
theorem wX0_secondSource {E : zE} {d : Nat} (hd : 0 ≤ d) {Q : Option zV → zM → Prop} {v1 : Int32} {v2 : Int32} {mm : zM} {o : Int32} (h : fX0_secondSource v1 v2 mm = some o) (hQ : ∀ r, o = r → Q (some (zI r)) mm) : V E RX0 cX0_secondSource 3 (some .int) d Q 0 [some (zK 0 0), some (zI v1), some (zI v2)] [] mm := by
  unfold fX0_secondSource at h
  refine V_aload_n 1 rfl 0 dX0_secondSource_0 rfl rfl ?_
  refine V_getr 4 rfl 13 0 dX0_secondSource_1 fl_X0_18 rfl rfl rfl ?_
  refine V_iload_n 5 rfl 1 dX0_secondSource_4 rfl rfl ?_
  refine V_bipush 7 rfl (v := 26) dX0_secondSource_5 (by decide) ?_
  refine V_imul 8 rfl dX0_secondSource_7 ?_
  refine V_iload_n 9 rfl 2 dX0_secondSource_8 rfl rfl ?_
  refine V_iadd 10 rfl dX0_secondSource_9 ?_
  obtain ⟨hi, h⟩ := zobd h
  refine V_iald 11 rfl dX0_secondSource_10 rfl hi ?_
  exact V_iret dX0_secondSource_11 rfl (hQ ((gi mm 13 0 (zn ((((v1 * 26)) + v2))))) (zinj h))
theorem ctX0_secondSource {E : zE} {d : Nat} (hd : 0 ≤ d) {v1 : Int32} {v2 : Int32} {mm : zM} {o : Int32} (h : fX0_secondSource v1 v2 mm = some o) : zOC E yX0_secondSource cX0_secondSource 3 (some .int) d [zK 0 0, zI v1, zI v2] mm (some (zI o)) mm :=
  zCT_of (by decide) (Nat.le_of_ble_eq_true rfl) (zk_k (zk_i (zk_i zk_0))) rfl (wX0_secondSource hd h (fun r e => ⟨by rw [e], rfl⟩))
def fX0_firstSource (v1 : Int32) (v2 : Int32) (mm : zM) : Option Int32 :=
  zob (zin ((((v1 * 26)) + v2)) 312) (some ((gi mm 12 0 (zn ((((v1 * 26)) + v2))))))
theorem wX0_firstSource {E : zE} {d : Nat} (hd : 0 ≤ d) {Q : Option zV → zM → Prop} {v1 : Int32} {v2 : Int32} {mm : zM} {o : Int32} (h : fX0_firstSource v1 v2 mm = some o) (hQ : ∀ r, o = r → Q (some (zI r)) mm) : V E RX0 cX0_firstSource 3 (some .int) d Q 0 [some (zK 0 0), some (zI v1), some (zI v2)] [] mm := by
  unfold fX0_firstSource at h
  refine V_aload_n 1 rfl 0 dX0_firstSource_0 rfl rfl ?_
  refine V_getr 4 rfl 12 0 dX0_firstSource_1 fl_X0_15 rfl rfl rfl ?_
  refine V_iload_n 5 rfl 1 dX0_firstSource_4 rfl rfl ?_
  refine V_bipush 7 rfl (v := 26) dX0_firstSource_5 (by decide) ?_
  refine V_imul 8 rfl dX0_firstSource_7 ?_
  refine V_iload_n 9 rfl 2 dX0_firstSource_8 rfl rfl ?_
  refine V_iadd 10 rfl dX0_firstSource_9 ?_
  obtain ⟨hi, h⟩ := zobd h
  refine V_iald 11 rfl dX0_firstSource_10 rfl hi ?_
  exact V_iret dX0_firstSource_11 rfl (hQ ((gi mm 12 0 (zn ((((v1 * 26)) + v2))))) (zinj h))
theorem ctX0_firstSource {E : zE} {d : Nat} (hd : 0 ≤ d) {v1 : Int32} {v2 : Int32} {mm : zM} {o : Int32} (h : fX0_firstSource v1 v2 mm = some o) : zOC E yX0_firstSource cX0_firstSource 3 (some .int) d [zK 0 0, zI v1, zI v2] mm (some (zI o)) mm :=
  zCT_of (by decide) (Nat.le_of_ble_eq_true rfl) (zk_k (zk_i (zk_i zk_0))) rfl (wX0_firstSource hd h (fun r e => ⟨by rw [e], rfl⟩))
def fX9_flat_J104 (v3 : Int32) (s0 : Int32) (mm : zM) : Option (Int32 × zM) :=
  if v3 = 1 then (some (((s0 / 26), mm))) else (if v3 = 3 then (some (((s0 / 26), mm))) else (some (((s0 - s0 / 26 * 26), mm))))
def fX9_flat_J78 (v1 : Int32) (v2 : Int32) (v3 : Int32) (mm : zM) : Option (Int32 × zM) :=
  if 2 < v3 then ((fX0_secondSource v1 v2 mm).bind (fun x6 => fX9_flat_J104 v3 x6 mm)) else ((fX0_firstSource v1 v2 mm).bind (fun x7 => fX9_flat_J104 v3 x7 mm))
def fX9_flat (v1 : Int32) (v2 : Int32) (v3 : Int32) (mm : zM) : Option (Int32 × zM) :=
  (gr mm 9 2).bind (fun j1 => (fX8_isUnit j1 v1 mm).bind (fun x2 => if x2 = 0 then (some (((-1), mm))) else ((fX9_isLetter v2 mm).bind (fun x3 => if x3 = 0 then (some (((-1), mm))) else (if v3 < 0 then (some (((-1), mm))) else (if v3 ≤ 4 then ((fX9_settle mm).bind (fun x4 => (fX0_kindOf v1 v2 x4).bind (fun x5 => if x5 = 0 then (some (((-1), x4))) else (if v3 = 0 then (some ((x5, x4))) else (if x5 = 2 then (some (((-2), x4))) else (if x5 = 1 then (if v3 ≤ 2 then (fX9_flat_J78 v1 v2 v3 x4) else (some (((-2), x4)))) else (fX9_flat_J78 v1 v2 v3 x4))))))) else (some (((-1), mm)))))))))
theorem wX9_flat_J104 {E : zE} {d : Nat} (hd : 5 ≤ d) {Q : Option zV → zM → Prop} {v3 : Int32} {s0 : Int32} {mm : zM} {o : (Int32 × zM)} (h : fX9_flat_J104 v3 s0 mm = some o) (hQ : ∀ r, o = r → Q (some (zI r.1)) r.2) : V E RX9 cX9_flat 6 (some .int) d Q 104 [none, none, none, some (zI v3), none, none] [zI s0] mm := by
  unfold fX9_flat_J104 at h
  refine V_istore 106 rfl (L' := [none, none, none, some (zI v3), none, some (zI s0)]) dX9_flat_104 (by decide) rfl ?_
  refine V_iload_n 107 rfl 3 dX9_flat_106 rfl rfl ?_
  refine V_iconst 108 rfl (v := 1) dX9_flat_107 (by decide) ?_
  refine V_icmp_eq 111 116 rfl dX9_flat_108 (by decide) (fun c => ?_) (fun c => ?_)
  · have h := zpos c h
    refine V_iload 118 rfl dX9_flat_116 rfl ?_
    refine V_bipush 120 rfl (v := 26) dX9_flat_118 (by decide) ?_
    refine V_idiv 121 rfl dX9_flat_120 (by decide) ?_
    refine V_goto 129 dX9_flat_121 (by decide) ?_
    exact V_iret dX9_flat_129 rfl (hQ (((s0 / 26), mm)) (zinj h))
  · have h := zneg c h
    refine V_iload_n 112 rfl 3 dX9_flat_111 rfl rfl ?_
    refine V_iconst 113 rfl (v := 3) dX9_flat_112 (by decide) ?_
    refine V_icmp_ne 116 124 rfl dX9_flat_113 (by decide) (fun c => ?_) (fun c => ?_)
    · have h := zneg c h
      refine V_iload 126 rfl dX9_flat_124 rfl ?_
      refine V_bipush 128 rfl (v := 26) dX9_flat_126 (by decide) ?_
      refine V_irem 129 rfl dX9_flat_128 (by decide) ?_
      exact V_iret dX9_flat_129 rfl (hQ (((s0 - s0 / 26 * 26), mm)) (zinj h))
    · have h := zpos c h
      refine V_iload 118 rfl dX9_flat_116 rfl ?_
      refine V_bipush 120 rfl (v := 26) dX9_flat_118 (by decide) ?_
      refine V_idiv 121 rfl dX9_flat_120 (by decide) ?_
      refine V_goto 129 dX9_flat_121 (by decide) ?_
      exact V_iret dX9_flat_129 rfl (hQ (((s0 / 26), mm)) (zinj h))
theorem wX9_flat_J78 {E : zE} {d : Nat} (hd : 5 ≤ d) {Q : Option zV → zM → Prop} {v1 : Int32} {v2 : Int32} {v3 : Int32} {mm : zM} {o : (Int32 × zM)} (h : fX9_flat_J78 v1 v2 v3 mm = some o) (hQ : ∀ r, o = r → Q (some (zI r.1)) r.2) : V E RX9 cX9_flat 6 (some .int) d Q 78 [some (zK 9 0), some (zI v1), some (zI v2), some (zI v3), none, none] [] mm := by
  unfold fX9_flat_J78 at h
  refine V_iload_n 79 rfl 3 dX9_flat_78 rfl rfl ?_
  refine V_iconst 80 rfl (v := 2) dX9_flat_79 (by decide) ?_
  refine V_icmp_gt 83 95 rfl dX9_flat_80 (by decide) (fun c => ?_) (fun c => ?_)
  · have h := zpos c h
    refine V_aload_n 96 rfl 0 dX9_flat_95 rfl rfl ?_
    refine V_getr 99 rfl 0 0 dX9_flat_96 fl_X9_44 rfl rfl rfl ?_
    refine V_iload_n 100 rfl 1 dX9_flat_99 rfl rfl ?_
    refine V_iload_n 101 rfl 2 dX9_flat_100 rfl rfl ?_
    obtain ⟨x6, h1, h⟩ := zbd h
    refine V_cV 104 rfl 0 [zI v1, zI v2] [] dX9_flat_101 cv_X9_232 (ctX0_secondSource (Nat.le_refl 0) h1) (Nat.le_trans (by decide) hd) rfl rfl (Nat.le_of_ble_eq_true rfl) zoki rfl ?_
    exact V_w (zsub_n (zsub_n (zsub_n (zsub_s (zsub_s (zsub_s zsub_0)))))) (wX9_flat_J104 hd h hQ)
  · have h := zneg c h
    refine V_aload_n 84 rfl 0 dX9_flat_83 rfl rfl ?_
    refine V_getr 87 rfl 0 0 dX9_flat_84 fl_X9_44 rfl rfl rfl ?_
    refine V_iload_n 88 rfl 1 dX9_flat_87 rfl rfl ?_
    refine V_iload_n 89 rfl 2 dX9_flat_88 rfl rfl ?_
    obtain ⟨x7, h1, h⟩ := zbd h
    refine V_cV 92 rfl 0 [zI v1, zI v2] [] dX9_flat_89 cv_X9_229 (ctX0_firstSource (Nat.le_refl 0) h1) (Nat.le_trans (by decide) hd) rfl rfl (Nat.le_of_ble_eq_true rfl) zoki rfl ?_
    refine V_goto 104 dX9_flat_92 (by decide) ?_
    exact V_w (zsub_n (zsub_n (zsub_n (zsub_s (zsub_s (zsub_s zsub_0)))))) (wX9_flat_J104 hd h hQ)
theorem wX9_flat {E : zE} {d : Nat} (hd : 5 ≤ d) {Q : Option zV → zM → Prop} {v1 : Int32} {v2 : Int32} {v3 : Int32} {mm : zM} {o : (Int32 × zM)} (h : fX9_flat v1 v2 v3 mm = some o) (hQ : ∀ r, o = r → Q (some (zI r.1)) r.2) : V E RX9 cX9_flat 6 (some .int) d Q 0 [some (zK 9 0), some (zI v1), some (zI v2), some (zI v3), none, none] [] mm := by
  unfold fX9_flat at h
  refine V_aload_n 1 rfl 0 dX9_flat_0 rfl rfl ?_
  obtain ⟨j1, hj, h⟩ := zbd h
  refine V_getm 4 rfl 8 dX9_flat_1 fl_X9_16 rfl rfl hj ?_
  refine V_iload_n 5 rfl 1 dX9_flat_4 rfl rfl ?_
  obtain ⟨x2, h1, h⟩ := zbd h
  refine V_cV 8 rfl 0 [zI v1] [] dX9_flat_5 cv_X9_127 (ctX8_isUnit (Nat.le_refl 0) h1) (Nat.le_trans (by decide) hd) rfl rfl (Nat.le_of_ble_eq_true rfl) zoki rfl ?_
  refine V_if_eq 11 27 rfl dX9_flat_8 (by decide) (fun c => ?_) (fun c => ?_)
  · have h := zpos c h
    refine V_iconst 28 rfl (v := (-1)) dX9_flat_27 (by decide) ?_
    exact V_iret dX9_flat_28 rfl (hQ (((-1), mm)) (zinj h))
  · have h := zneg c h
    refine V_iload_n 12 rfl 2 dX9_flat_11 rfl rfl ?_
    obtain ⟨x3, h1, h⟩ := zbd h
    refine V_cS 15 rfl 0 [zI v2] [] dX9_flat_12 cs_X9_130 (ctX9_isLetter (Nat.le_refl 0) h1) (Nat.le_trans (by decide) hd) rfl rfl (Nat.le_of_ble_eq_true rfl) zoki rfl ?_
    refine V_if_eq 18 27 rfl dX9_flat_15 (by decide) (fun c => ?_) (fun c => ?_)
    · have h := zpos c h
      refine V_iconst 28 rfl (v := (-1)) dX9_flat_27 (by decide) ?_
      exact V_iret dX9_flat_28 rfl (hQ (((-1), mm)) (zinj h))
    · have h := zneg c h
      refine V_iload_n 19 rfl 3 dX9_flat_18 rfl rfl ?_
      refine V_if_lt 22 27 rfl dX9_flat_19 (by decide) (fun c => ?_) (fun c => ?_)
      · have h := zpos c h
        refine V_iconst 28 rfl (v := (-1)) dX9_flat_27 (by decide) ?_
        exact V_iret dX9_flat_28 rfl (hQ (((-1), mm)) (zinj h))
      · have h := zneg c h
        refine V_iload_n 23 rfl 3 dX9_flat_22 rfl rfl ?_
        refine V_iconst 24 rfl (v := 4) dX9_flat_23 (by decide) ?_
        refine V_icmp_le 27 29 rfl dX9_flat_24 (by decide) (fun c => ?_) (fun c => ?_)
        · have h := zpos c h
          refine V_aload_n 30 rfl 0 dX9_flat_29 rfl rfl ?_
          obtain ⟨x4, h1, h⟩ := zbd h
          refine V_cV 33 rfl 4 [] [] dX9_flat_30 cv_X9_201 (ctX9_settle (Nat.le_refl 4) h1) (Nat.le_trans (by decide) hd) rfl rfl (Nat.le_of_ble_eq_true rfl) zokn rfl ?_
          refine V_aload_n 34 rfl 0 dX9_flat_33 rfl rfl ?_
          refine V_getr 37 rfl 0 0 dX9_flat_34 fl_X9_44 rfl rfl rfl ?_
          refine V_iload_n 38 rfl 1 dX9_flat_37 rfl rfl ?_
          refine V_iload_n 39 rfl 2 dX9_flat_38 rfl rfl ?_
          obtain ⟨x5, h1, h⟩ := zbd h
          refine V_cV 42 rfl 0 [zI v1, zI v2] [] dX9_flat_39 cv_X9_226 (ctX0_kindOf (Nat.le_refl 0) h1) (Nat.le_trans (by decide) hd) rfl rfl (Nat.le_of_ble_eq_true rfl) zoki rfl ?_
          refine V_istore 44 rfl (L' := [some (zK 9 0), some (zI v1), some (zI v2), some (zI v3), some (zI x5), none]) dX9_flat_42 (by decide) rfl ?_
          refine V_iload 46 rfl dX9_flat_44 rfl ?_
          refine V_if_ne 49 51 rfl dX9_flat_46 (by decide) (fun c => ?_) (fun c => ?_)
          · have h := zneg c h
            refine V_iload_n 52 rfl 3 dX9_flat_51 rfl rfl ?_
            refine V_if_ne 55 58 rfl dX9_flat_52 (by decide) (fun c => ?_) (fun c => ?_)
            · have h := zneg c h
              refine V_iload 60 rfl dX9_flat_58 rfl ?_
              refine V_iconst 61 rfl (v := 2) dX9_flat_60 (by decide) ?_
              refine V_icmp_eq 64 75 rfl dX9_flat_61 (by decide) (fun c => ?_) (fun c => ?_)
              · have h := zpos c h
                refine V_bipush 77 rfl (v := (-2)) dX9_flat_75 (by decide) ?_
                exact V_iret dX9_flat_77 rfl (hQ (((-2), x4)) (zinj h))
              · have h := zneg c h
                refine V_iload 66 rfl dX9_flat_64 rfl ?_
                refine V_iconst 67 rfl (v := 1) dX9_flat_66 (by decide) ?_
                refine V_icmp_ne 70 78 rfl dX9_flat_67 (by decide) (fun c => ?_) (fun c => ?_)
                · have h := zneg c h
                  exact V_w (zsub_s (zsub_s (zsub_s (zsub_s (zsub_n (zsub_s zsub_0)))))) (wX9_flat_J78 hd h hQ)
                · have h := zpos c h
                  refine V_iload_n 71 rfl 3 dX9_flat_70 rfl rfl ?_
                  refine V_iconst 72 rfl (v := 2) dX9_flat_71 (by decide) ?_
                  refine V_icmp_le 75 78 rfl dX9_flat_72 (by decide) (fun c => ?_) (fun c => ?_)
                  · have h := zpos c h
                    exact V_w (zsub_s (zsub_s (zsub_s (zsub_s (zsub_n (zsub_s zsub_0)))))) (wX9_flat_J78 hd h hQ)
                  · have h := zneg c h
                    refine V_bipush 77 rfl (v := (-2)) dX9_flat_75 (by decide) ?_
                    exact V_iret dX9_flat_77 rfl (hQ (((-2), x4)) (zinj h))
            · have h := zpos c h
              refine V_iload 57 rfl dX9_flat_55 rfl ?_
              exact V_iret dX9_flat_57 rfl (hQ ((x5, x4)) (zinj h))
          · have h := zpos c h
            refine V_iconst 50 rfl (v := (-1)) dX9_flat_49 (by decide) ?_
            exact V_iret dX9_flat_50 rfl (hQ (((-1), x4)) (zinj h))
        · have h := zneg c h
          refine V_iconst 28 rfl (v := (-1)) dX9_flat_27 (by decide) ?_
          exact V_iret dX9_flat_28 rfl (hQ (((-1), mm)) (zinj h))
theorem ctX9_flat {E : zE} {d : Nat} (hd : 5 ≤ d) {v1 : Int32} {v2 : Int32} {v3 : Int32} {mm : zM} {o : (Int32 × zM)} (h : fX9_flat v1 v2 v3 mm = some o) : zOC E yX9_flat cX9_flat 6 (some .int) d [zK 9 0, zI v1, zI v2, zI v3] mm (some (zI o.1)) o.2 :=
  zCT_of (by decide) (Nat.le_of_ble_eq_true rfl) (zk_k (zk_i (zk_i (zk_i zk_0)))) rfl (wX9_flat hd h (fun r e => ⟨by rw [e], by rw [e]⟩))
def fX9_itemOrCount_17 (v0 : Nat) (v1 : Int32) (v2 : Int32) (mm : zM) : Option Int32 :=
  if v2 = (-1) then (some v1) else (if v2 < 0 then (some ((-2))) else (if v1 ≤ v2 then (some ((-2))) else (if 12 ≤ v2 then (some ((-2))) else (zob (zin v2 12) (some ((gi mm 17 v0 (zn v2))))))))
theorem wX9_itemOrCount_17 {E : zE} {d : Nat} (hd : 0 ≤ d) {Q : Option zV → zM → Prop} {v0 : Nat} {v1 : Int32} {v2 : Int32} {mm : zM} {o : Int32} (h : fX9_itemOrCount_17 v0 v1 v2 mm = some o) (hQ : ∀ r, o = r → Q (some (zI r)) mm) : V E RX9 cX9_itemOrCount 3 (some .int) d Q 0 [some (zK 17 v0), some (zI v1), some (zI v2)] [] mm := by
  unfold fX9_itemOrCount_17 at h
  refine V_iload_n 1 rfl 2 dX9_itemOrCount_0 rfl rfl ?_
  refine V_iconst 2 rfl (v := (-1)) dX9_itemOrCount_1 (by decide) ?_
  refine V_icmp_ne 5 7 rfl dX9_itemOrCount_2 (by decide) (fun c => ?_) (fun c => ?_)
  · have h := zneg c h
    refine V_iload_n 8 rfl 2 dX9_itemOrCount_7 rfl rfl ?_
    refine V_if_lt 11 28 rfl dX9_itemOrCount_8 (by decide) (fun c => ?_) (fun c => ?_)
    · have h := zpos c h
      refine V_bipush 30 rfl (v := (-2)) dX9_itemOrCount_28 (by decide) ?_
      exact V_iret dX9_itemOrCount_30 rfl (hQ ((-2)) (zinj h))
    · have h := zneg c h
      refine V_iload_n 12 rfl 2 dX9_itemOrCount_11 rfl rfl ?_
      refine V_iload_n 13 rfl 1 dX9_itemOrCount_12 rfl rfl ?_
      refine V_icmp_ge 16 28 rfl dX9_itemOrCount_13 (by decide) (fun c => ?_) (fun c => ?_)
      · have h := zpos c h
        refine V_bipush 30 rfl (v := (-2)) dX9_itemOrCount_28 (by decide) ?_
        exact V_iret dX9_itemOrCount_30 rfl (hQ ((-2)) (zinj h))
      · have h := zneg c h
        refine V_iload_n 17 rfl 2 dX9_itemOrCount_16 rfl rfl ?_
        refine V_aload_n 18 rfl 0 dX9_itemOrCount_17 rfl rfl ?_
        refine V_alen 19 rfl 12 dX9_itemOrCount_18 rfl (by decide) (by decide) ?_
        refine V_icmp_ge 22 28 rfl dX9_itemOrCount_19 (by decide) (fun c => ?_) (fun c => ?_)
        · have h := zpos c h
          refine V_bipush 30 rfl (v := (-2)) dX9_itemOrCount_28 (by decide) ?_
          exact V_iret dX9_itemOrCount_30 rfl (hQ ((-2)) (zinj h))
        · have h := zneg c h
          refine V_aload_n 23 rfl 0 dX9_itemOrCount_22 rfl rfl ?_
          refine V_iload_n 24 rfl 2 dX9_itemOrCount_23 rfl rfl ?_
          obtain ⟨hi, h⟩ := zobd h
          refine V_iald 25 rfl dX9_itemOrCount_24 rfl hi ?_
          refine V_goto 30 dX9_itemOrCount_25 (by decide) ?_
          exact V_iret dX9_itemOrCount_30 rfl (hQ ((gi mm 17 v0 (zn v2))) (zinj h))
  · have h := zpos c h
    refine V_iload_n 6 rfl 1 dX9_itemOrCount_5 rfl rfl ?_
    exact V_iret dX9_itemOrCount_6 rfl (hQ v1 (zinj h))
theorem ctX9_itemOrCount_17 {E : zE} {d : Nat} (hd : 0 ≤ d) {v0 : Nat} {v1 : Int32} {v2 : Int32} {mm : zM} {o : Int32} (h : fX9_itemOrCount_17 v0 v1 v2 mm = some o) : zOC E yX9_itemOrCount cX9_itemOrCount 3 (some .int) d [zK 17 v0, zI v1, zI v2] mm (some (zI o)) mm :=
  zCT_of (by decide) (Nat.le_of_ble_eq_true rfl) (zk_k (zk_i (zk_i zk_0))) rfl (wX9_itemOrCount_17 hd h (fun r e => ⟨by rw [e], rfl⟩))
def fX9_line (v1 : Int32) (v2 : Int32) (mm : zM) : Option (Int32 × zM) :=
  (gr mm 9 2).bind (fun j1 => (fX8_isType j1 v1 mm).bind (fun x2 => if x2 = 0 then (some (((-1), mm))) else (if (-1) ≤ v2 then ((fX9_settle mm).bind (fun x3 => zob (zin v1 12) (zob (zin v1 12) ((fX9_itemOrCount_17 ((zn v1)) ((gi x3 18 0 (zn v1))) v2 x3).bind (fun x4 => some ((x4, x3))))))) else (some (((-1), mm))))))
theorem wX9_line {E : zE} {d : Nat} (hd : 5 ≤ d) {Q : Option zV → zM → Prop} {v1 : Int32} {v2 : Int32} {mm : zM} {o : (Int32 × zM)} (h : fX9_line v1 v2 mm = some o) (hQ : ∀ r, o = r → Q (some (zI r.1)) r.2) : V E RX9 cX9_line 3 (some .int) d Q 0 [some (zK 9 0), some (zI v1), some (zI v2)] [] mm := by
  unfold fX9_line at h
  refine V_aload_n 1 rfl 0 dX9_line_0 rfl rfl ?_
  obtain ⟨j1, hj, h⟩ := zbd h
  refine V_getm 4 rfl 8 dX9_line_1 fl_X9_16 rfl rfl hj ?_
  refine V_iload_n 5 rfl 1 dX9_line_4 rfl rfl ?_
  obtain ⟨x2, h1, h⟩ := zbd h
  refine V_cV 8 rfl 1 [zI v1] [] dX9_line_5 cv_X9_94 (ctX8_isType (Nat.le_refl 1) h1) (Nat.le_trans (by decide) hd) rfl rfl (Nat.le_of_ble_eq_true rfl) zoki rfl ?_
  refine V_if_eq 11 16 rfl dX9_line_8 (by decide) (fun c => ?_) (fun c => ?_)
  · have h := zpos c h
    refine V_iconst 17 rfl (v := (-1)) dX9_line_16 (by decide) ?_
    exact V_iret dX9_line_17 rfl (hQ (((-1), mm)) (zinj h))
  · have h := zneg c h
    refine V_iload_n 12 rfl 2 dX9_line_11 rfl rfl ?_
    refine V_iconst 13 rfl (v := (-1)) dX9_line_12 (by decide) ?_
    refine V_icmp_ge 16 18 rfl dX9_line_13 (by decide) (fun c => ?_) (fun c => ?_)
    · have h := zpos c h
      refine V_aload_n 19 rfl 0 dX9_line_18 rfl rfl ?_
      obtain ⟨x3, h1, h⟩ := zbd h
      refine V_cV 22 rfl 4 [] [] dX9_line_19 cv_X9_201 (ctX9_settle (Nat.le_refl 4) h1) (Nat.le_trans (by decide) hd) rfl rfl (Nat.le_of_ble_eq_true rfl) zokn rfl ?_
      refine V_aload_n 23 rfl 0 dX9_line_22 rfl rfl ?_
      refine V_getr 26 rfl 2 0 dX9_line_23 fl_X9_51 rfl rfl rfl ?_
      refine V_getr 29 rfl 16 0 dX9_line_26 fl_X9_235 rfl rfl rfl ?_
      refine V_iload_n 30 rfl 1 dX9_line_29 rfl rfl ?_
      obtain ⟨hi, h⟩ := zobd h
      refine V_aald 31 rfl 17 (zn v1) dX9_line_30 rfl (by decide) (by decide) rfl rfl hi ?_
      refine V_aload_n 32 rfl 0 dX9_line_31 rfl rfl ?_
      refine V_getr 35 rfl 2 0 dX9_line_32 fl_X9_51 rfl rfl rfl ?_
      refine V_getr 38 rfl 18 0 dX9_line_35 fl_X9_238 rfl rfl rfl ?_
      refine V_iload_n 39 rfl 1 dX9_line_38 rfl rfl ?_
      obtain ⟨hi, h⟩ := zobd h
      refine V_iald 40 rfl dX9_line_39 rfl hi ?_
      refine V_iload_n 41 rfl 2 dX9_line_40 rfl rfl ?_
      obtain ⟨x4, h1, h⟩ := zbd h
      refine V_cS 44 rfl 0 [zK 17 (zn v1), zI (gi x3 18 0 (zn v1)), zI v2] [] dX9_line_41 cs_X9_241 (ctX9_itemOrCount_17 (Nat.le_refl 0) h1) (Nat.le_trans (by decide) hd) rfl rfl (Nat.le_of_ble_eq_true rfl) zoki rfl ?_
      exact V_iret dX9_line_44 rfl (hQ ((x4, x3)) (zinj h))
    · have h := zneg c h
      refine V_iconst 17 rfl (v := (-1)) dX9_line_16 (by decide) ?_
      exact V_iret dX9_line_17 rfl (hQ (((-1), mm)) (zinj h))
theorem ctX9_line {E : zE} {d : Nat} (hd : 5 ≤ d) {v1 : Int32} {v2 : Int32} {mm : zM} {o : (Int32 × zM)} (h : fX9_line v1 v2 mm = some o) : zOC E yX9_line cX9_line 3 (some .int) d [zK 9 0, zI v1, zI v2] mm (some (zI o.1)) o.2 :=
  zCT_of (by decide) (Nat.le_of_ble_eq_true rfl) (zk_k (zk_i (zk_i zk_0))) rfl (wX9_line hd h (fun r e => ⟨by rw [e], by rw [e]⟩))
def fX9_itemOrCount_20 (v0 : Nat) (v1 : Int32) (v2 : Int32) (mm : zM) : Option Int32 :=
  if v2 = (-1) then (some v1) else (if v2 < 0 then (some ((-2))) else (if v1 ≤ v2 then (some ((-2))) else (if 12 ≤ v2 then (some ((-2))) else (zob (zin v2 12) (some ((gi mm 20 v0 (zn v2))))))))
theorem wX9_itemOrCount_20 {E : zE} {d : Nat} (hd : 0 ≤ d) {Q : Option zV → zM → Prop} {v0 : Nat} {v1 : Int32} {v2 : Int32} {mm : zM} {o : Int32} (h : fX9_itemOrCount_20 v0 v1 v2 mm = some o) (hQ : ∀ r, o = r → Q (some (zI r)) mm) : V E RX9 cX9_itemOrCount 3 (some .int) d Q 0 [some (zK 20 v0), some (zI v1), some (zI v2)] [] mm := by
  unfold fX9_itemOrCount_20 at h
  refine V_iload_n 1 rfl 2 dX9_itemOrCount_0 rfl rfl ?_
  refine V_iconst 2 rfl (v := (-1)) dX9_itemOrCount_1 (by decide) ?_
  refine V_icmp_ne 5 7 rfl dX9_itemOrCount_2 (by decide) (fun c => ?_) (fun c => ?_)
  · have h := zneg c h
    refine V_iload_n 8 rfl 2 dX9_itemOrCount_7 rfl rfl ?_
    refine V_if_lt 11 28 rfl dX9_itemOrCount_8 (by decide) (fun c => ?_) (fun c => ?_)
    · have h := zpos c h
      refine V_bipush 30 rfl (v := (-2)) dX9_itemOrCount_28 (by decide) ?_
      exact V_iret dX9_itemOrCount_30 rfl (hQ ((-2)) (zinj h))
    · have h := zneg c h
      refine V_iload_n 12 rfl 2 dX9_itemOrCount_11 rfl rfl ?_
      refine V_iload_n 13 rfl 1 dX9_itemOrCount_12 rfl rfl ?_
      refine V_icmp_ge 16 28 rfl dX9_itemOrCount_13 (by decide) (fun c => ?_) (fun c => ?_)
      · have h := zpos c h
        refine V_bipush 30 rfl (v := (-2)) dX9_itemOrCount_28 (by decide) ?_
        exact V_iret dX9_itemOrCount_30 rfl (hQ ((-2)) (zinj h))
      · have h := zneg c h
        refine V_iload_n 17 rfl 2 dX9_itemOrCount_16 rfl rfl ?_
        refine V_aload_n 18 rfl 0 dX9_itemOrCount_17 rfl rfl ?_
        refine V_alen 19 rfl 12 dX9_itemOrCount_18 rfl (by decide) (by decide) ?_
        refine V_icmp_ge 22 28 rfl dX9_itemOrCount_19 (by decide) (fun c => ?_) (fun c => ?_)
        · have h := zpos c h
          refine V_bipush 30 rfl (v := (-2)) dX9_itemOrCount_28 (by decide) ?_
          exact V_iret dX9_itemOrCount_30 rfl (hQ ((-2)) (zinj h))
        · have h := zneg c h
          refine V_aload_n 23 rfl 0 dX9_itemOrCount_22 rfl rfl ?_
          refine V_iload_n 24 rfl 2 dX9_itemOrCount_23 rfl rfl ?_
          obtain ⟨hi, h⟩ := zobd h
          refine V_iald 25 rfl dX9_itemOrCount_24 rfl hi ?_
          refine V_goto 30 dX9_itemOrCount_25 (by decide) ?_
          exact V_iret dX9_itemOrCount_30 rfl (hQ ((gi mm 20 v0 (zn v2))) (zinj h))
  · have h := zpos c h
    refine V_iload_n 6 rfl 1 dX9_itemOrCount_5 rfl rfl ?_
    exact V_iret dX9_itemOrCount_6 rfl (hQ v1 (zinj h))
theorem ctX9_itemOrCount_20 {E : zE} {d : Nat} (hd : 0 ≤ d) {v0 : Nat} {v1 : Int32} {v2 : Int32} {mm : zM} {o : Int32} (h : fX9_itemOrCount_20 v0 v1 v2 mm = some o) : zOC E yX9_itemOrCount cX9_itemOrCount 3 (some .int) d [zK 20 v0, zI v1, zI v2] mm (some (zI o)) mm :=
  zCT_of (by decide) (Nat.le_of_ble_eq_true rfl) (zk_k (zk_i (zk_i zk_0))) rfl (wX9_itemOrCount_20 hd h (fun r e => ⟨by rw [e], rfl⟩))
def fX9_ring (v1 : Int32) (v2 : Int32) (mm : zM) : Option (Int32 × zM) :=
  (gr mm 9 2).bind (fun j1 => (fX8_isType j1 v1 mm).bind (fun x2 => if x2 = 0 then (some (((-1), mm))) else (if (-1) ≤ v2 then ((fX9_settle mm).bind (fun x3 => zob (zin v1 12) (zob (zin v1 12) ((fX9_itemOrCount_20 ((zn v1)) ((gi x3 21 0 (zn v1))) v2 x3).bind (fun x4 => some ((x4, x3))))))) else (some (((-1), mm))))))
theorem wX9_ring {E : zE} {d : Nat} (hd : 5 ≤ d) {Q : Option zV → zM → Prop} {v1 : Int32} {v2 : Int32} {mm : zM} {o : (Int32 × zM)} (h : fX9_ring v1 v2 mm = some o) (hQ : ∀ r, o = r → Q (some (zI r.1)) r.2) : V E RX9 cX9_ring 3 (some .int) d Q 0 [some (zK 9 0), some (zI v1), some (zI v2)] [] mm := by
  unfold fX9_ring at h
  refine V_aload_n 1 rfl 0 dX9_ring_0 rfl rfl ?_
  obtain ⟨j1, hj, h⟩ := zbd h
  refine V_getm 4 rfl 8 dX9_ring_1 fl_X9_16 rfl rfl hj ?_
  refine V_iload_n 5 rfl 1 dX9_ring_4 rfl rfl ?_
  obtain ⟨x2, h1, h⟩ := zbd h
  refine V_cV 8 rfl 1 [zI v1] [] dX9_ring_5 cv_X9_94 (ctX8_isType (Nat.le_refl 1) h1) (Nat.le_trans (by decide) hd) rfl rfl (Nat.le_of_ble_eq_true rfl) zoki rfl ?_
  refine V_if_eq 11 16 rfl dX9_ring_8 (by decide) (fun c => ?_) (fun c => ?_)
  · have h := zpos c h
    refine V_iconst 17 rfl (v := (-1)) dX9_ring_16 (by decide) ?_
    exact V_iret dX9_ring_17 rfl (hQ (((-1), mm)) (zinj h))
  · have h := zneg c h
    refine V_iload_n 12 rfl 2 dX9_ring_11 rfl rfl ?_
    refine V_iconst 13 rfl (v := (-1)) dX9_ring_12 (by decide) ?_
    refine V_icmp_ge 16 18 rfl dX9_ring_13 (by decide) (fun c => ?_) (fun c => ?_)
    · have h := zpos c h
      refine V_aload_n 19 rfl 0 dX9_ring_18 rfl rfl ?_
      obtain ⟨x3, h1, h⟩ := zbd h
      refine V_cV 22 rfl 4 [] [] dX9_ring_19 cv_X9_201 (ctX9_settle (Nat.le_refl 4) h1) (Nat.le_trans (by decide) hd) rfl rfl (Nat.le_of_ble_eq_true rfl) zokn rfl ?_
      refine V_aload_n 23 rfl 0 dX9_ring_22 rfl rfl ?_
      refine V_getr 26 rfl 2 0 dX9_ring_23 fl_X9_51 rfl rfl rfl ?_
      refine V_getr 29 rfl 19 0 dX9_ring_26 fl_X9_245 rfl rfl rfl ?_
      refine V_iload_n 30 rfl 1 dX9_ring_29 rfl rfl ?_
      obtain ⟨hi, h⟩ := zobd h
      refine V_aald 31 rfl 20 (zn v1) dX9_ring_30 rfl (by decide) (by decide) rfl rfl hi ?_
      refine V_aload_n 32 rfl 0 dX9_ring_31 rfl rfl ?_
      refine V_getr 35 rfl 2 0 dX9_ring_32 fl_X9_51 rfl rfl rfl ?_
      refine V_getr 38 rfl 21 0 dX9_ring_35 fl_X9_248 rfl rfl rfl ?_
      refine V_iload_n 39 rfl 1 dX9_ring_38 rfl rfl ?_
      obtain ⟨hi, h⟩ := zobd h
      refine V_iald 40 rfl dX9_ring_39 rfl hi ?_
      refine V_iload_n 41 rfl 2 dX9_ring_40 rfl rfl ?_
      obtain ⟨x4, h1, h⟩ := zbd h
      refine V_cS 44 rfl 0 [zK 20 (zn v1), zI (gi x3 21 0 (zn v1)), zI v2] [] dX9_ring_41 cs_X9_241 (ctX9_itemOrCount_20 (Nat.le_refl 0) h1) (Nat.le_trans (by decide) hd) rfl rfl (Nat.le_of_ble_eq_true rfl) zoki rfl ?_
      exact V_iret dX9_ring_44 rfl (hQ ((x4, x3)) (zinj h))
    · have h := zneg c h
      refine V_iconst 17 rfl (v := (-1)) dX9_ring_16 (by decide) ?_
      exact V_iret dX9_ring_17 rfl (hQ (((-1), mm)) (zinj h))
theorem ctX9_ring {E : zE} {d : Nat} (hd : 5 ≤ d) {v1 : Int32} {v2 : Int32} {mm : zM} {o : (Int32 × zM)} (h : fX9_ring v1 v2 mm = some o) : zOC E yX9_ring cX9_ring 3 (some .int) d [zK 9 0, zI v1, zI v2] mm (some (zI o.1)) o.2 :=
  zCT_of (by decide) (Nat.le_of_ble_eq_true rfl) (zk_k (zk_i (zk_i zk_0))) rfl (wX9_ring hd h (fun r e => ⟨by rw [e], by rw [e]⟩))
def fX9_over (v1 : Int32) (mm : zM) : Option (Int32 × zM) :=
  (gr mm 9 2).bind (fun j1 => (fX8_isType j1 v1 mm).bind (fun x2 => if x2 = 0 then (some (((-1), mm))) else ((fX9_settle mm).bind (fun x3 => zob (zin v1 12) (some (((gi x3 22 0 (zn v1)), x3)))))))
theorem wX9_over {E : zE} {d : Nat} (hd : 5 ≤ d) {Q : Option zV → zM → Prop} {v1 : Int32} {mm : zM} {o : (Int32 × zM)} (h : fX9_over v1 mm = some o) (hQ : ∀ r, o = r → Q (some (zI r.1)) r.2) : V E RX9 cX9_over 2 (some .int) d Q 0 [some (zK 9 0), some (zI v1)] [] mm := by
  unfold fX9_over at h
  refine V_aload_n 1 rfl 0 dX9_over_0 rfl rfl ?_
  obtain ⟨j1, hj, h⟩ := zbd h
  refine V_getm 4 rfl 8 dX9_over_1 fl_X9_16 rfl rfl hj ?_
  refine V_iload_n 5 rfl 1 dX9_over_4 rfl rfl ?_
  obtain ⟨x2, h1, h⟩ := zbd h
  refine V_cV 8 rfl 1 [zI v1] [] dX9_over_5 cv_X9_94 (ctX8_isType (Nat.le_refl 1) h1) (Nat.le_trans (by decide) hd) rfl rfl (Nat.le_of_ble_eq_true rfl) zoki rfl ?_
  refine V_if_ne 11 13 rfl dX9_over_8 (by decide) (fun c => ?_) (fun c => ?_)
  · have h := zneg c h
    refine V_aload_n 14 rfl 0 dX9_over_13 rfl rfl ?_
    obtain ⟨x3, h1, h⟩ := zbd h
    refine V_cV 17 rfl 4 [] [] dX9_over_14 cv_X9_201 (ctX9_settle (Nat.le_refl 4) h1) (Nat.le_trans (by decide) hd) rfl rfl (Nat.le_of_ble_eq_true rfl) zokn rfl ?_
    refine V_aload_n 18 rfl 0 dX9_over_17 rfl rfl ?_
    refine V_getr 21 rfl 2 0 dX9_over_18 fl_X9_51 rfl rfl rfl ?_
    refine V_getr 24 rfl 22 0 dX9_over_21 fl_X9_251 rfl rfl rfl ?_
    refine V_iload_n 25 rfl 1 dX9_over_24 rfl rfl ?_
    obtain ⟨hi, h⟩ := zobd h
    refine V_iald 26 rfl dX9_over_25 rfl hi ?_
    exact V_iret dX9_over_26 rfl (hQ (((gi x3 22 0 (zn v1)), x3)) (zinj h))
  · have h := zpos c h
    refine V_iconst 12 rfl (v := (-1)) dX9_over_11 (by decide) ?_
    exact V_iret dX9_over_12 rfl (hQ (((-1), mm)) (zinj h))
theorem ctX9_over {E : zE} {d : Nat} (hd : 5 ≤ d) {v1 : Int32} {mm : zM} {o : (Int32 × zM)} (h : fX9_over v1 mm = some o) : zOC E yX9_over cX9_over 2 (some .int) d [zK 9 0, zI v1] mm (some (zI o.1)) o.2 :=
  zCT_of (by decide) (Nat.le_of_ble_eq_true rfl) (zk_k (zk_i zk_0)) rfl (wX9_over hd h (fun r e => ⟨by rw [e], by rw [e]⟩))
def fJ7_fill_28_L5 (v1 : Int32) (v3 : Int32) (s : (Int32 × zM)) : Option ((Int32 × zM) ⊕ (zM ⊕ Empty)) :=
  if v3 ≤ s.1 then (some (.inr (.inl s.2))) else (zob (zin s.1 12) (some (.inl ((s.1 + 1), (wi s.2 28 0 (zn s.1) v1)))))
def fJ7_fill_28 (v1 : Int32) (mm : zM) : Option zM :=
  (zloop (fJ7_fill_28_L5 v1 12) zF (0, mm)).bind (fun o3 => zcase o3 (fun y1 => some y1) (fun r2 => r2.elim))
theorem wJ7_fill_28_L5 {E : zE} {d : Nat} (hd : 0 ≤ d) {Q : Option zV → zM → Prop} {v1 : Int32} {v3 : Int32} {n : Nat} {s : (Int32 × zM)} {o : zM ⊕ Empty} (h : zloop (fJ7_fill_28_L5 v1 v3) n s = some o) (he : ∀ y : zM, o = .inl y → V E RJ7 cJ7_fill_53178 4 none d Q 20 [none, none, none, none] [] y) : V E RJ7 cJ7_fill_53178 4 none d Q 5 [some (zK 28 0), some (zI v1), some (zI s.1), some (zI v3)] [] s.2 := by
  induction n generalizing s with
  | zero => exact (zloop_0 h).elim
  | succ n ih =>
    obtain ⟨o1, h1, hc1, he1⟩ := zloop_s h
    have kc : ∀ s' : (Int32 × zM), o1 = .inl s' → V E RJ7 cJ7_fill_53178 4 none d Q 5 [some (zK 28 0), some (zI v1), some (zI s'.1), some (zI v3)] [] s'.2 := fun s' e => ih (hc1 s' e)
    have ke : ∀ y : zM, o1 = .inr (.inl y) → V E RJ7 cJ7_fill_53178 4 none d Q 20 [none, none, none, none] [] y := fun y e => he y (he1 _ e)
    clear h hc1 he1 ih
    have h := h1
    clear h1
    unfold fJ7_fill_28_L5 at h
    refine V_iload_n 6 rfl 2 dJ7_fill_53178_5 rfl rfl ?_
    refine V_iload_n 7 rfl 3 dJ7_fill_53178_6 rfl rfl ?_
    refine V_icmp_ge 10 20 rfl dJ7_fill_53178_7 (by decide) (fun c => ?_) (fun c => ?_)
    · have h := zpos c h
      exact V_w (zsub_n (zsub_n (zsub_n (zsub_n zsub_0)))) (ke s.2 (zinj h))
    · have h := zneg c h
      refine V_aload_n 11 rfl 0 dJ7_fill_53178_10 rfl rfl ?_
      refine V_iload_n 12 rfl 2 dJ7_fill_53178_11 rfl rfl ?_
      refine V_iload_n 13 rfl 1 dJ7_fill_53178_12 rfl rfl ?_
      obtain ⟨hi, h⟩ := zobd h
      refine V_iast 14 rfl dJ7_fill_53178_13 rfl hi ?_
      refine V_iinc 17 rfl (s.1 + 1) (L' := [some (zK 28 0), some (zI v1), some (zI (s.1 + 1)), some (zI v3)]) dJ7_fill_53178_14 rfl rfl (by decide) rfl ?_
      refine V_goto 5 dJ7_fill_53178_17 (by decide) ?_
      exact kc ((s.1 + 1), (wi s.2 28 0 (zn s.1) v1)) (zinj h)
theorem wJ7_fill_28 {E : zE} {d : Nat} (hd : 0 ≤ d) {Q : Option zV → zM → Prop} {v1 : Int32} {mm : zM} {o : zM} (h : fJ7_fill_28 v1 mm = some o) (hQ : ∀ r, o = r → Q none r) : V E RJ7 cJ7_fill_53178 4 none d Q 0 [some (zK 28 0), some (zI v1), none, none] [] mm := by
  unfold fJ7_fill_28 at h
  refine V_iconst 1 rfl (v := 0) dJ7_fill_53178_0 (by decide) ?_
  refine V_istore_n 2 rfl 2 (L' := [some (zK 28 0), some (zI v1), some (zI 0), none]) dJ7_fill_53178_1 rfl (by decide) rfl ?_
  refine V_aload_n 3 rfl 0 dJ7_fill_53178_2 rfl rfl ?_
  refine V_alen 4 rfl 12 dJ7_fill_53178_3 rfl (by decide) (by decide) ?_
  refine V_istore_n 5 rfl 3 (L' := [some (zK 28 0), some (zI v1), some (zI 0), some (zI 12)]) dJ7_fill_53178_4 rfl (by decide) rfl ?_
  obtain ⟨o3, h1, h⟩ := zbd h
  refine wJ7_fill_28_L5 hd h1 (fun y1 e => ?_)
  have h := zcl_ e h
  exact V_vret dJ7_fill_53178_20 rfl (hQ y1 (zinj h))
theorem ctJ7_fill_28 {E : zE} {d : Nat} (hd : 0 ≤ d) {v1 : Int32} {mm : zM} {o : zM} (h : fJ7_fill_28 v1 mm = some o) : zOC E yJ7_fill_53178 cJ7_fill_53178 4 none d [zK 28 0, zI v1] mm none o :=
  zCT_of (by decide) (Nat.le_of_ble_eq_true rfl) (zk_k (zk_i zk_0)) rfl (wJ7_fill_28 hd h (fun r e => ⟨rfl, by rw [e]⟩))
def fX3_tellParents_L7 (v2 : Nat) (s : (Int32 × Int32 × zM)) : Option ((Int32 × Int32 × zM) ⊕ (zM ⊕ Empty)) :=
  if (gi s.2.2 5 v2 1) ≤ s.2.1 then (some (.inr (.inl s.2.2))) else (zob (zin s.2.1 4) (zob (zin ((gi s.2.2 30 v2 (zn s.2.1))) 12) (zob (zin ((gi s.2.2 30 v2 (zn s.2.1))) 12) (some (.inl ((s.1 ||| ((1 <<< (((gi s.2.2 30 v2 (zn s.2.1))) &&& 31)))), (s.2.1 + 1), (wi s.2.2 28 0 (zn ((gi s.2.2 30 v2 (zn s.2.1)))) ((((gi s.2.2 28 0 (zn ((gi s.2.2 30 v2 (zn s.2.1)))))) ||| s.1)))))))))
def fX3_tellParents (v1 : Int32) (v2 : Nat) (mm : zM) : Option zM :=
  (zloop (fX3_tellParents_L7 v2) zF ((1 <<< (v1 &&& 31)), 0, mm)).bind (fun o3 => zcase o3 (fun y1 => some y1) (fun r2 => r2.elim))
theorem wX3_tellParents_L7 {E : zE} {d : Nat} (hd : 0 ≤ d) {Q : Option zV → zM → Prop} {v2 : Nat} {n : Nat} {s : (Int32 × Int32 × zM)} {o : zM ⊕ Empty} (h : zloop (fX3_tellParents_L7 v2) n s = some o) (he : ∀ y : zM, o = .inl y → V E RX3 cX3_tellParents 6 none d Q 49 [none, none, none, none, none, none] [] y) : V E RX3 cX3_tellParents 6 none d Q 7 [some (zK 3 0), none, some (zK 5 v2), some (zI s.1), some (zI s.2.1), none] [] s.2.2 := by
  induction n generalizing s with
  | zero => exact (zloop_0 h).elim
  | succ n ih =>
    obtain ⟨o1, h1, hc1, he1⟩ := zloop_s h
    have kc : ∀ s' : (Int32 × Int32 × zM), o1 = .inl s' → V E RX3 cX3_tellParents 6 none d Q 7 [some (zK 3 0), none, some (zK 5 v2), some (zI s'.1), some (zI s'.2.1), none] [] s'.2.2 := fun s' e => ih (hc1 s' e)
    have ke : ∀ y : zM, o1 = .inr (.inl y) → V E RX3 cX3_tellParents 6 none d Q 49 [none, none, none, none, none, none] [] y := fun y e => he y (he1 _ e)
    clear h hc1 he1 ih
    have h := h1
    clear h1
    unfold fX3_tellParents_L7 at h
    refine V_iload 9 rfl dX3_tellParents_7 rfl ?_
    refine V_aload_n 10 rfl 2 dX3_tellParents_9 rfl rfl ?_
    refine V_geti 13 rfl dX3_tellParents_10 fl_X3_54 rfl ?_
    refine V_icmp_ge 16 49 rfl dX3_tellParents_13 (by decide) (fun c => ?_) (fun c => ?_)
    · have h := zpos c h
      exact V_w (zsub_n (zsub_s (zsub_n (zsub_n (zsub_n (zsub_s zsub_0)))))) (ke s.2.2 (zinj h))
    · have h := zneg c h
      refine V_aload_n 17 rfl 2 dX3_tellParents_16 rfl rfl ?_
      refine V_getr 20 rfl 30 v2 dX3_tellParents_17 fl_X3_57 rfl rfl rfl ?_
      refine V_iload 22 rfl dX3_tellParents_20 rfl ?_
      obtain ⟨hi, h⟩ := zobd h
      refine V_iald 23 rfl dX3_tellParents_22 rfl hi ?_
      refine V_istore 25 rfl (L' := [some (zK 3 0), none, some (zK 5 v2), some (zI s.1), some (zI s.2.1), some (zI (gi s.2.2 30 v2 (zn s.2.1)))]) dX3_tellParents_23 (by decide) rfl ?_
      refine V_aload_n 26 rfl 0 dX3_tellParents_25 rfl rfl ?_
      refine V_getr 29 rfl 28 0 dX3_tellParents_26 fl_X3_9 rfl rfl rfl ?_
      refine V_iload 31 rfl dX3_tellParents_29 rfl ?_
      refine V_dup2 32 rfl dX3_tellParents_31 rfl rfl ?_
      obtain ⟨hi, h⟩ := zobd h
      refine V_iald 33 rfl dX3_tellParents_32 rfl hi ?_
      refine V_iload_n 34 rfl 3 dX3_tellParents_33 rfl rfl ?_
      refine V_ior 35 rfl dX3_tellParents_34 ?_
      obtain ⟨hi, h⟩ := zobd h
      refine V_iast 36 rfl dX3_tellParents_35 rfl hi ?_
      refine V_iload_n 37 rfl 3 dX3_tellParents_36 rfl rfl ?_
      refine V_iconst 38 rfl (v := 1) dX3_tellParents_37 (by decide) ?_
      refine V_iload 40 rfl dX3_tellParents_38 rfl ?_
      refine V_ishl 41 rfl dX3_tellParents_40 ?_
      refine V_ior 42 rfl dX3_tellParents_41 ?_
      refine V_istore_n 43 rfl 3 (L' := [some (zK 3 0), none, some (zK 5 v2), some (zI (s.1 ||| ((1 <<< (((gi s.2.2 30 v2 (zn s.2.1))) &&& 31))))), some (zI s.2.1), some (zI (gi s.2.2 30 v2 (zn s.2.1)))]) dX3_tellParents_42 rfl (by decide) rfl ?_
      refine V_iinc 46 rfl (s.2.1 + 1) (L' := [some (zK 3 0), none, some (zK 5 v2), some (zI (s.1 ||| ((1 <<< (((gi s.2.2 30 v2 (zn s.2.1))) &&& 31))))), some (zI (s.2.1 + 1)), some (zI (gi s.2.2 30 v2 (zn s.2.1)))]) dX3_tellParents_43 rfl rfl (by decide) rfl ?_
      refine V_goto 7 dX3_tellParents_46 (by decide) ?_
      exact V_w (zsub_s (zsub_s (zsub_s (zsub_s (zsub_s (zsub_n zsub_0)))))) (kc ((s.1 ||| ((1 <<< (((gi s.2.2 30 v2 (zn s.2.1))) &&& 31)))), (s.2.1 + 1), (wi s.2.2 28 0 (zn ((gi s.2.2 30 v2 (zn s.2.1)))) ((((gi s.2.2 28 0 (zn ((gi s.2.2 30 v2 (zn s.2.1)))))) ||| s.1)))) (zinj h))
theorem wX3_tellParents {E : zE} {d : Nat} (hd : 0 ≤ d) {Q : Option zV → zM → Prop} {v1 : Int32} {v2 : Nat} {mm : zM} {o : zM} (h : fX3_tellParents v1 v2 mm = some o) (hQ : ∀ r, o = r → Q none r) : V E RX3 cX3_tellParents 6 none d Q 0 [some (zK 3 0), some (zI v1), some (zK 5 v2), none, none, none] [] mm := by
  unfold fX3_tellParents at h
  refine V_iconst 1 rfl (v := 1) dX3_tellParents_0 (by decide) ?_
  refine V_iload_n 2 rfl 1 dX3_tellParents_1 rfl rfl ?_
  refine V_ishl 3 rfl dX3_tellParents_2 ?_
  refine V_istore_n 4 rfl 3 (L' := [some (zK 3 0), some (zI v1), some (zK 5 v2), some (zI (1 <<< (v1 &&& 31))), none, none]) dX3_tellParents_3 rfl (by decide) rfl ?_
  refine V_iconst 5 rfl (v := 0) dX3_tellParents_4 (by decide) ?_
  refine V_istore 7 rfl (L' := [some (zK 3 0), some (zI v1), some (zK 5 v2), some (zI (1 <<< (v1 &&& 31))), some (zI 0), none]) dX3_tellParents_5 (by decide) rfl ?_
  obtain ⟨o3, h1, h⟩ := zbd h
  refine V_w (zsub_s (zsub_n (zsub_s (zsub_s (zsub_s (zsub_s zsub_0)))))) (wX3_tellParents_L7 hd h1 (fun y1 e => ?_))
  have h := zcl_ e h
  exact V_vret dX3_tellParents_49 rfl (hQ y1 (zinj h))
theorem ctX3_tellParents {E : zE} {d : Nat} (hd : 0 ≤ d) {v1 : Int32} {v2 : Nat} {mm : zM} {o : zM} (h : fX3_tellParents v1 v2 mm = some o) : zOC E yX3_tellParents cX3_tellParents 6 none d [zK 3 0, zI v1, zK 5 v2] mm none o :=
  zCT_of (by decide) (Nat.le_of_ble_eq_true rfl) (zk_k (zk_i (zk_k zk_0))) rfl (wX3_tellParents hd h (fun r e => ⟨rfl, by rw [e]⟩))
def fX3_closeAhead_L10 (v1 : Int32) (s : (Int32 × zM)) : Option ((Int32 × zM) ⊕ (zM ⊕ Empty)) :=
  if 12 ≤ s.1 then (some (.inr (.inl s.2))) else (zob (zin s.1 12) ((fX9_hasBit ((gi s.2 28 0 (zn s.1))) v1 s.2).bind (fun x1 => if x1 = 0 then (some (.inl ((s.1 + 1), s.2))) else (zob (zin s.1 12) (zob (zin v1 12) (zob (zin s.1 12) (some (.inl ((s.1 + 1), (wi s.2 28 0 (zn s.1) ((((gi s.2 28 0 (zn s.1))) ||| ((gi s.2 28 0 (zn v1)))))))))))))))
def fX3_closeAhead_L2 (s : (Int32 × zM)) : Option ((Int32 × zM) ⊕ (zM ⊕ Empty)) :=
  if 12 ≤ s.1 then (some (.inr (.inl s.2))) else ((zloop (fX3_closeAhead_L10 s.1) zF (0, s.2)).bind (fun o4 => zcase o4 (fun y2 => some (.inl ((s.1 + 1), y2))) (fun r3 => r3.elim)))
def fX3_closeAhead (mm : zM) : Option zM :=
  (zloop (fX3_closeAhead_L2) zF (0, mm)).bind (fun o7 => zcase o7 (fun y5 => some y5) (fun r6 => r6.elim))
theorem wX3_closeAhead_L10 {E : zE} {d : Nat} (hd : 1 ≤ d) {Q : Option zV → zM → Prop} {v1 : Int32} {n : Nat} {s : (Int32 × zM)} {o : zM ⊕ Empty} (h : zloop (fX3_closeAhead_L10 v1) n s = some o) (he : ∀ y : zM, o = .inl y → V E RX3 cX3_closeAhead 3 none d Q 50 [some (zK 3 0), some (zI v1), none] [] y) : V E RX3 cX3_closeAhead 3 none d Q 10 [some (zK 3 0), some (zI v1), some (zI s.1)] [] s.2 := by
  induction n generalizing s with
  | zero => exact (zloop_0 h).elim
  | succ n ih =>
    obtain ⟨o1, h1, hc1, he1⟩ := zloop_s h
    have kc : ∀ s' : (Int32 × zM), o1 = .inl s' → V E RX3 cX3_closeAhead 3 none d Q 10 [some (zK 3 0), some (zI v1), some (zI s'.1)] [] s'.2 := fun s' e => ih (hc1 s' e)
    have ke : ∀ y : zM, o1 = .inr (.inl y) → V E RX3 cX3_closeAhead 3 none d Q 50 [some (zK 3 0), some (zI v1), none] [] y := fun y e => he y (he1 _ e)
    clear h hc1 he1 ih
    have h := h1
    clear h1
    unfold fX3_closeAhead_L10 at h
    refine V_iload_n 11 rfl 2 dX3_closeAhead_10 rfl rfl ?_
    refine V_bipush 13 rfl (v := 12) dX3_closeAhead_11 (by decide) ?_
    refine V_icmp_ge 16 50 rfl dX3_closeAhead_13 (by decide) (fun c => ?_) (fun c => ?_)
    · have h := zpos c h
      exact V_w (zsub_s (zsub_s (zsub_n zsub_0))) (ke s.2 (zinj h))
    · have h := zneg c h
      refine V_aload_n 17 rfl 0 dX3_closeAhead_16 rfl rfl ?_
      refine V_getr 20 rfl 28 0 dX3_closeAhead_17 fl_X3_9 rfl rfl rfl ?_
      refine V_iload_n 21 rfl 2 dX3_closeAhead_20 rfl rfl ?_
      obtain ⟨hi, h⟩ := zobd h
      refine V_iald 22 rfl dX3_closeAhead_21 rfl hi ?_
      refine V_iload_n 23 rfl 1 dX3_closeAhead_22 rfl rfl ?_
      obtain ⟨x1, h1, h⟩ := zbd h
      refine V_cN 26 rfl 0 [zI (gi s.2 28 0 (zn s.1)), zI v1] [] dX3_closeAhead_23 cn_X3_33 (ctX9_hasBit (Nat.le_refl 0) h1) (Nat.le_trans (by decide) hd) rfl rfl (Nat.le_of_ble_eq_true rfl) zoki rfl ?_
      refine V_if_eq 29 44 rfl dX3_closeAhead_26 (by decide) (fun c => ?_) (fun c => ?_)
      · have h := zpos c h
        refine V_iinc 47 rfl (s.1 + 1) (L' := [some (zK 3 0), some (zI v1), some (zI (s.1 + 1))]) dX3_closeAhead_44 rfl rfl (by decide) rfl ?_
        refine V_goto 10 dX3_closeAhead_47 (by decide) ?_
        exact kc ((s.1 + 1), s.2) (zinj h)
      · have h := zneg c h
        refine V_aload_n 30 rfl 0 dX3_closeAhead_29 rfl rfl ?_
        refine V_getr 33 rfl 28 0 dX3_closeAhead_30 fl_X3_9 rfl rfl rfl ?_
        refine V_iload_n 34 rfl 2 dX3_closeAhead_33 rfl rfl ?_
        refine V_dup2 35 rfl dX3_closeAhead_34 rfl rfl ?_
        obtain ⟨hi, h⟩ := zobd h
        refine V_iald 36 rfl dX3_closeAhead_35 rfl hi ?_
        refine V_aload_n 37 rfl 0 dX3_closeAhead_36 rfl rfl ?_
        refine V_getr 40 rfl 28 0 dX3_closeAhead_37 fl_X3_9 rfl rfl rfl ?_
        refine V_iload_n 41 rfl 1 dX3_closeAhead_40 rfl rfl ?_
        obtain ⟨hi, h⟩ := zobd h
        refine V_iald 42 rfl dX3_closeAhead_41 rfl hi ?_
        refine V_ior 43 rfl dX3_closeAhead_42 ?_
        obtain ⟨hi, h⟩ := zobd h
        refine V_iast 44 rfl dX3_closeAhead_43 rfl hi ?_
        refine V_iinc 47 rfl (s.1 + 1) (L' := [some (zK 3 0), some (zI v1), some (zI (s.1 + 1))]) dX3_closeAhead_44 rfl rfl (by decide) rfl ?_
        refine V_goto 10 dX3_closeAhead_47 (by decide) ?_
        exact kc ((s.1 + 1), (wi s.2 28 0 (zn s.1) ((((gi s.2 28 0 (zn s.1))) ||| ((gi s.2 28 0 (zn v1))))))) (zinj h)
theorem wX3_closeAhead_L2 {E : zE} {d : Nat} (hd : 1 ≤ d) {Q : Option zV → zM → Prop} {n : Nat} {s : (Int32 × zM)} {o : zM ⊕ Empty} (h : zloop (fX3_closeAhead_L2) n s = some o) (he : ∀ y : zM, o = .inl y → V E RX3 cX3_closeAhead 3 none d Q 56 [none, none, none] [] y) : V E RX3 cX3_closeAhead 3 none d Q 2 [some (zK 3 0), some (zI s.1), none] [] s.2 := by
  induction n generalizing s with
  | zero => exact (zloop_0 h).elim
  | succ n ih =>
    obtain ⟨o1, h1, hc1, he1⟩ := zloop_s h
    have kc : ∀ s' : (Int32 × zM), o1 = .inl s' → V E RX3 cX3_closeAhead 3 none d Q 2 [some (zK 3 0), some (zI s'.1), none] [] s'.2 := fun s' e => ih (hc1 s' e)
    have ke : ∀ y : zM, o1 = .inr (.inl y) → V E RX3 cX3_closeAhead 3 none d Q 56 [none, none, none] [] y := fun y e => he y (he1 _ e)
    clear h hc1 he1 ih
    have h := h1
    clear h1
    unfold fX3_closeAhead_L2 at h
    refine V_iload_n 3 rfl 1 dX3_closeAhead_2 rfl rfl ?_
    refine V_bipush 5 rfl (v := 12) dX3_closeAhead_3 (by decide) ?_
    refine V_icmp_ge 8 56 rfl dX3_closeAhead_5 (by decide) (fun c => ?_) (fun c => ?_)
    · have h := zpos c h
      exact V_w (zsub_n (zsub_n (zsub_s zsub_0))) (ke s.2 (zinj h))
    · have h := zneg c h
      refine V_iconst 9 rfl (v := 0) dX3_closeAhead_8 (by decide) ?_
      refine V_istore_n 10 rfl 2 (L' := [some (zK 3 0), some (zI s.1), some (zI 0)]) dX3_closeAhead_9 rfl (by decide) rfl ?_
      obtain ⟨o4, h1, h⟩ := zbd h
      refine wX3_closeAhead_L10 hd h1 (fun y2 e => ?_)
      have h := zcl_ e h
      refine V_iinc 53 rfl (s.1 + 1) (L' := [some (zK 3 0), some (zI (s.1 + 1)), none]) dX3_closeAhead_50 rfl rfl (by decide) rfl ?_
      refine V_goto 2 dX3_closeAhead_53 (by decide) ?_
      exact kc ((s.1 + 1), y2) (zinj h)
theorem wX3_closeAhead {E : zE} {d : Nat} (hd : 1 ≤ d) {Q : Option zV → zM → Prop} {mm : zM} {o : zM} (h : fX3_closeAhead mm = some o) (hQ : ∀ r, o = r → Q none r) : V E RX3 cX3_closeAhead 3 none d Q 0 [some (zK 3 0), none, none] [] mm := by
  unfold fX3_closeAhead at h
  refine V_iconst 1 rfl (v := 0) dX3_closeAhead_0 (by decide) ?_
  refine V_istore_n 2 rfl 1 (L' := [some (zK 3 0), some (zI 0), none]) dX3_closeAhead_1 rfl (by decide) rfl ?_
  obtain ⟨o7, h1, h⟩ := zbd h
  refine wX3_closeAhead_L2 hd h1 (fun y5 e => ?_)
  have h := zcl_ e h
  exact V_vret dX3_closeAhead_56 rfl (hQ y5 (zinj h))
theorem ctX3_closeAhead {E : zE} {d : Nat} (hd : 1 ≤ d) {mm : zM} {o : zM} (h : fX3_closeAhead mm = some o) : zOC E yX3_closeAhead cX3_closeAhead 3 none d [zK 3 0] mm none o :=
  zCT_of (by decide) (Nat.le_of_ble_eq_true rfl) (zk_k zk_0) rfl (wX3_closeAhead hd h (fun r e => ⟨rfl, by rw [e]⟩))
def fX3_prepare_L15 (v1 : Nat) (s : (Int32 × zM)) : Option ((Int32 × zM) ⊕ (zM ⊕ Empty)) :=
  if (gi s.2 8 v1 1) ≤ s.1 then (some (.inr (.inl s.2))) else ((fX9_hasBit ((gi s.2 3 0 2)) s.1 s.2).bind (fun x2 => if x2 = 0 then (some (.inl ((s.1 + 1), s.2))) else (zob (zin s.1 12) ((fX3_tellParents s.1 ((2 * (12 * v1 + zn s.1))) s.2).bind (fun x3 => some (.inl ((s.1 + 1), x3)))))))
def fX3_prepare (v1 : Nat) (v2 : Int32) (mm : zM) : Option zM :=
  (fJ7_fill_28 0 ((wi mm 3 0 2 v2))).bind (fun x1 => (zloop (fX3_prepare_L15 v1) zF (0, x1)).bind (fun o7 => zcase o7 (fun y4 => (fX3_closeAhead y4).bind (fun x6 => some x6)) (fun r5 => r5.elim)))
theorem wX3_prepare_L15 {E : zE} {d : Nat} (hd : 2 ≤ d) {Q : Option zV → zM → Prop} {v1 : Nat} {n : Nat} {s : (Int32 × zM)} {o : zM ⊕ Empty} (h : zloop (fX3_prepare_L15 v1) n s = some o) (he : ∀ y : zM, o = .inl y → V E RX3 cX3_prepare 4 none d Q 54 [some (zK 3 0), none, none, none] [] y) : V E RX3 cX3_prepare 4 none d Q 15 [some (zK 3 0), some (zK 8 v1), none, some (zI s.1)] [] s.2 := by
  induction n generalizing s with
  | zero => exact (zloop_0 h).elim
  | succ n ih =>
    obtain ⟨o1, h1, hc1, he1⟩ := zloop_s h
    have kc : ∀ s' : (Int32 × zM), o1 = .inl s' → V E RX3 cX3_prepare 4 none d Q 15 [some (zK 3 0), some (zK 8 v1), none, some (zI s'.1)] [] s'.2 := fun s' e => ih (hc1 s' e)
    have ke : ∀ y : zM, o1 = .inr (.inl y) → V E RX3 cX3_prepare 4 none d Q 54 [some (zK 3 0), none, none, none] [] y := fun y e => he y (he1 _ e)
    clear h hc1 he1 ih
    have h := h1
    clear h1
    unfold fX3_prepare_L15 at h
    refine V_iload_n 16 rfl 3 dX3_prepare_15 rfl rfl ?_
    refine V_aload_n 17 rfl 1 dX3_prepare_16 rfl rfl ?_
    refine V_geti 20 rfl dX3_prepare_17 fl_X3_28 rfl ?_
    refine V_icmp_ge 23 54 rfl dX3_prepare_20 (by decide) (fun c => ?_) (fun c => ?_)
    · have h := zpos c h
      exact V_w (zsub_s (zsub_n (zsub_s (zsub_n zsub_0)))) (ke s.2 (zinj h))
    · have h := zneg c h
      refine V_aload_n 24 rfl 0 dX3_prepare_23 rfl rfl ?_
      refine V_geti 27 rfl dX3_prepare_24 fl_X3_18 rfl ?_
      refine V_iload_n 28 rfl 3 dX3_prepare_27 rfl rfl ?_
      obtain ⟨x2, h1, h⟩ := zbd h
      refine V_cN 31 rfl 0 [zI (gi s.2 3 0 2), zI s.1] [] dX3_prepare_28 cn_X3_33 (ctX9_hasBit (Nat.le_refl 0) h1) (Nat.le_trans (by decide) hd) rfl rfl (Nat.le_of_ble_eq_true rfl) zoki rfl ?_
      refine V_if_eq 34 48 rfl dX3_prepare_31 (by decide) (fun c => ?_) (fun c => ?_)
      · have h := zpos c h
        refine V_iinc 51 rfl (s.1 + 1) (L' := [some (zK 3 0), some (zK 8 v1), none, some (zI (s.1 + 1))]) dX3_prepare_48 rfl rfl (by decide) rfl ?_
        refine V_goto 15 dX3_prepare_51 (by decide) ?_
        exact kc ((s.1 + 1), s.2) (zinj h)
      · have h := zneg c h
        refine V_aload_n 35 rfl 0 dX3_prepare_34 rfl rfl ?_
        refine V_iload_n 36 rfl 3 dX3_prepare_35 rfl rfl ?_
        refine V_aload_n 37 rfl 1 dX3_prepare_36 rfl rfl ?_
        refine V_getr 40 rfl 35 v1 dX3_prepare_37 fl_X3_37 rfl rfl rfl ?_
        refine V_iload_n 41 rfl 3 dX3_prepare_40 rfl rfl ?_
        obtain ⟨hi, h⟩ := zobd h
        refine V_aald 42 rfl 7 (12 * v1 + zn s.1) dX3_prepare_41 rfl (by decide) (by decide) rfl rfl hi ?_
        refine V_getr 45 rfl 5 (2 * (12 * v1 + zn s.1)) dX3_prepare_42 fl_X3_41 rfl rfl rfl ?_
        obtain ⟨x3, h1, h⟩ := zbd h
        refine V_cV 48 rfl 0 [zI s.1, zK 5 (2 * (12 * v1 + zn s.1))] [] dX3_prepare_45 cv_X3_47 (ctX3_tellParents (Nat.le_refl 0) h1) (Nat.le_trans (by decide) hd) rfl rfl (Nat.le_of_ble_eq_true rfl) zokn rfl ?_
        refine V_iinc 51 rfl (s.1 + 1) (L' := [some (zK 3 0), some (zK 8 v1), none, some (zI (s.1 + 1))]) dX3_prepare_48 rfl rfl (by decide) rfl ?_
        refine V_goto 15 dX3_prepare_51 (by decide) ?_
        exact kc ((s.1 + 1), x3) (zinj h)
theorem wX3_prepare {E : zE} {d : Nat} (hd : 2 ≤ d) {Q : Option zV → zM → Prop} {v1 : Nat} {v2 : Int32} {mm : zM} {o : zM} (h : fX3_prepare v1 v2 mm = some o) (hQ : ∀ r, o = r → Q none r) : V E RX3 cX3_prepare 4 none d Q 0 [some (zK 3 0), some (zK 8 v1), some (zI v2), none] [] mm := by
  unfold fX3_prepare at h
  refine V_aload_n 1 rfl 0 dX3_prepare_0 rfl rfl ?_
  refine V_iload_n 2 rfl 2 dX3_prepare_1 rfl rfl ?_
  refine V_puti 5 rfl dX3_prepare_2 fw_X3_18 rfl rfl rfl ?_
  refine V_aload_n 6 rfl 0 dX3_prepare_5 rfl rfl ?_
  refine V_getr 9 rfl 28 0 dX3_prepare_6 fl_X3_9 rfl rfl rfl ?_
  refine V_iconst 10 rfl (v := 0) dX3_prepare_9 (by decide) ?_
  obtain ⟨x1, h1, h⟩ := zbd h
  refine V_cS 13 rfl 0 [zK 28 0, zI 0] [] dX3_prepare_10 cs_X3_22 (ctJ7_fill_28 (Nat.le_refl 0) h1) (Nat.le_trans (by decide) hd) rfl rfl (Nat.le_of_ble_eq_true rfl) zokn rfl ?_
  refine V_iconst 14 rfl (v := 0) dX3_prepare_13 (by decide) ?_
  refine V_istore_n 15 rfl 3 (L' := [some (zK 3 0), some (zK 8 v1), some (zI v2), some (zI 0)]) dX3_prepare_14 rfl (by decide) rfl ?_
  obtain ⟨o7, h1, h⟩ := zbd h
  refine V_w (zsub_s (zsub_s (zsub_n (zsub_s zsub_0)))) (wX3_prepare_L15 hd h1 (fun y4 e => ?_))
  have h := zcl_ e h
  refine V_aload_n 55 rfl 0 dX3_prepare_54 rfl rfl ?_
  obtain ⟨x6, h1, h⟩ := zbd h
  refine V_cV 58 rfl 1 [] [] dX3_prepare_55 cv_X3_51 (ctX3_closeAhead (Nat.le_refl 1) h1) (Nat.le_trans (by decide) hd) rfl rfl (Nat.le_of_ble_eq_true rfl) zokn rfl ?_
  exact V_vret dX3_prepare_58 rfl (hQ x6 (zinj h))
theorem ctX3_prepare {E : zE} {d : Nat} (hd : 2 ≤ d) {v1 : Nat} {v2 : Int32} {mm : zM} {o : zM} (h : fX3_prepare v1 v2 mm = some o) : zOC E yX3_prepare cX3_prepare 4 none d [zK 3 0, zK 8 v1, zI v2] mm none o :=
  zCT_of (by decide) (Nat.le_of_ble_eq_true rfl) (zk_k (zk_k (zk_i zk_0))) rfl (wX3_prepare hd h (fun r e => ⟨rfl, by rw [e]⟩))
def fX3_hasNone_L2 (mm : zM) (s : Int32) : Option (Int32 ⊕ (Unit ⊕ Int32)) :=
  if 12 ≤ s then (some (.inr (.inl ()))) else (zob (zin s 12) ((fX9_hasBit ((gi mm 28 0 (zn s))) s mm).bind (fun x1 => if x1 = 0 then (some (.inl (s + 1))) else (some (.inr (.inr 1))))))
def fX3_hasNone (mm : zM) : Option Int32 :=
  (zloop (fX3_hasNone_L2 mm) zF 0).bind (fun o4 => zcase o4 (fun y2 => some 0) (fun r3 => some r3))
theorem wX3_hasNone_L2 {E : zE} {d : Nat} (hd : 1 ≤ d) {Q : Option zV → zM → Prop} {mm : zM} {n : Nat} {s : Int32} {o : Unit ⊕ Int32} (h : zloop (fX3_hasNone_L2 mm) n s = some o) (he : ∀ y : Unit, o = .inl y → V E RX3 cX3_hasNone 2 (some .boolean) d Q 29 [none, none] [] mm) (hr : ∀ r : Int32, o = .inr r → Q (some (zI r)) mm) : V E RX3 cX3_hasNone 2 (some .boolean) d Q 2 [some (zK 3 0), some (zI s)] [] mm := by
  induction n generalizing s with
  | zero => exact (zloop_0 h).elim
  | succ n ih =>
    obtain ⟨o1, h1, hc1, he1⟩ := zloop_s h
    have kc : ∀ s' : Int32, o1 = .inl s' → V E RX3 cX3_hasNone 2 (some .boolean) d Q 2 [some (zK 3 0), some (zI s')] [] mm := fun s' e => ih (hc1 s' e)
    have ke : ∀ y : Unit, o1 = .inr (.inl y) → V E RX3 cX3_hasNone 2 (some .boolean) d Q 29 [none, none] [] mm := fun y e => he y (he1 _ e)
    have kr : ∀ r : Int32, o1 = .inr (.inr r) → Q (some (zI r)) mm := fun r e => hr r (he1 _ e)
    clear h hc1 he1 ih
    have h := h1
    clear h1
    unfold fX3_hasNone_L2 at h
    refine V_iload_n 3 rfl 1 dX3_hasNone_2 rfl rfl ?_
    refine V_bipush 5 rfl (v := 12) dX3_hasNone_3 (by decide) ?_
    refine V_icmp_ge 8 29 rfl dX3_hasNone_5 (by decide) (fun c => ?_) (fun c => ?_)
    · have h := zpos c h
      exact V_w (zsub_n (zsub_n zsub_0)) (ke () (zinj h))
    · have h := zneg c h
      refine V_aload_n 9 rfl 0 dX3_hasNone_8 rfl rfl ?_
      refine V_getr 12 rfl 28 0 dX3_hasNone_9 fl_X3_9 rfl rfl rfl ?_
      refine V_iload_n 13 rfl 1 dX3_hasNone_12 rfl rfl ?_
      obtain ⟨hi, h⟩ := zobd h
      refine V_iald 14 rfl dX3_hasNone_13 rfl hi ?_
      refine V_iload_n 15 rfl 1 dX3_hasNone_14 rfl rfl ?_
      obtain ⟨x1, h1, h⟩ := zbd h
      refine V_cN 18 rfl 0 [zI (gi mm 28 0 (zn s)), zI s] [] dX3_hasNone_15 cn_X3_33 (ctX9_hasBit (Nat.le_refl 0) h1) (Nat.le_trans (by decide) hd) rfl rfl (Nat.le_of_ble_eq_true rfl) zoki rfl ?_
      refine V_if_eq 21 23 rfl dX3_hasNone_18 (by decide) (fun c => ?_) (fun c => ?_)
      · have h := zpos c h
        refine V_iinc 26 rfl (s + 1) (L' := [some (zK 3 0), some (zI (s + 1))]) dX3_hasNone_23 rfl rfl (by decide) rfl ?_
        refine V_goto 2 dX3_hasNone_26 (by decide) ?_
        exact kc (s + 1) (zinj h)
      · have h := zneg c h
        refine V_iconst 22 rfl (v := 1) dX3_hasNone_21 (by decide) ?_
        exact V_zret dX3_hasNone_22 rfl rfl (kr 1 (zinj h))
theorem wX3_hasNone {E : zE} {d : Nat} (hd : 1 ≤ d) {Q : Option zV → zM → Prop} {mm : zM} {o : Int32} (h : fX3_hasNone mm = some o) (hQ : ∀ r, o = r → Q (some (zI r)) mm) : V E RX3 cX3_hasNone 2 (some .boolean) d Q 0 [some (zK 3 0), none] [] mm := by
  unfold fX3_hasNone at h
  refine V_iconst 1 rfl (v := 0) dX3_hasNone_0 (by decide) ?_
  refine V_istore_n 2 rfl 1 (L' := [some (zK 3 0), some (zI 0)]) dX3_hasNone_1 rfl (by decide) rfl ?_
  obtain ⟨o4, h1, h⟩ := zbd h
  refine wX3_hasNone_L2 hd h1 (fun y2 e => ?_) (fun r e => by have h := zcr_ e h; exact hQ r (zinj h))
  have h := zcl_ e h
  refine V_iconst 30 rfl (v := 0) dX3_hasNone_29 (by decide) ?_
  exact V_zret dX3_hasNone_30 rfl rfl (hQ 0 (zinj h))
theorem ctX3_hasNone {E : zE} {d : Nat} (hd : 1 ≤ d) {mm : zM} {o : Int32} (h : fX3_hasNone mm = some o) : zOC E yX3_hasNone cX3_hasNone 2 (some .boolean) d [zK 3 0] mm (some (zI o)) mm :=
  zCT_of (by decide) (Nat.le_of_ble_eq_true rfl) (zk_k zk_0) rfl (wX3_hasNone hd h (fun r e => ⟨by rw [e], rfl⟩))
def fJ7_fill_29_L5 (v1 : Int32) (v3 : Int32) (s : (Int32 × zM)) : Option ((Int32 × zM) ⊕ (zM ⊕ Empty)) :=
  if v3 ≤ s.1 then (some (.inr (.inl s.2))) else (zob (zin s.1 4096) (some (.inl ((s.1 + 1), (wi s.2 29 0 (zn s.1) v1)))))
def fJ7_fill_29 (v1 : Int32) (mm : zM) : Option zM :=
  (zloop (fJ7_fill_29_L5 v1 4096) zF (0, mm)).bind (fun o3 => zcase o3 (fun y1 => some y1) (fun r2 => r2.elim))
theorem wJ7_fill_29_L5 {E : zE} {d : Nat} (hd : 0 ≤ d) {Q : Option zV → zM → Prop} {v1 : Int32} {v3 : Int32} {n : Nat} {s : (Int32 × zM)} {o : zM ⊕ Empty} (h : zloop (fJ7_fill_29_L5 v1 v3) n s = some o) (he : ∀ y : zM, o = .inl y → V E RJ7 cJ7_fill_53178 4 none d Q 20 [none, none, none, none] [] y) : V E RJ7 cJ7_fill_53178 4 none d Q 5 [some (zK 29 0), some (zI v1), some (zI s.1), some (zI v3)] [] s.2 := by
  induction n generalizing s with
  | zero => exact (zloop_0 h).elim
  | succ n ih =>
    obtain ⟨o1, h1, hc1, he1⟩ := zloop_s h
    have kc : ∀ s' : (Int32 × zM), o1 = .inl s' → V E RJ7 cJ7_fill_53178 4 none d Q 5 [some (zK 29 0), some (zI v1), some (zI s'.1), some (zI v3)] [] s'.2 := fun s' e => ih (hc1 s' e)
    have ke : ∀ y : zM, o1 = .inr (.inl y) → V E RJ7 cJ7_fill_53178 4 none d Q 20 [none, none, none, none] [] y := fun y e => he y (he1 _ e)
    clear h hc1 he1 ih
    have h := h1
    clear h1
    unfold fJ7_fill_29_L5 at h
    refine V_iload_n 6 rfl 2 dJ7_fill_53178_5 rfl rfl ?_
    refine V_iload_n 7 rfl 3 dJ7_fill_53178_6 rfl rfl ?_
    refine V_icmp_ge 10 20 rfl dJ7_fill_53178_7 (by decide) (fun c => ?_) (fun c => ?_)
    · have h := zpos c h
      exact V_w (zsub_n (zsub_n (zsub_n (zsub_n zsub_0)))) (ke s.2 (zinj h))
    · have h := zneg c h
      refine V_aload_n 11 rfl 0 dJ7_fill_53178_10 rfl rfl ?_
      refine V_iload_n 12 rfl 2 dJ7_fill_53178_11 rfl rfl ?_
      refine V_iload_n 13 rfl 1 dJ7_fill_53178_12 rfl rfl ?_
      obtain ⟨hi, h⟩ := zobd h
      refine V_iast 14 rfl dJ7_fill_53178_13 rfl hi ?_
      refine V_iinc 17 rfl (s.1 + 1) (L' := [some (zK 29 0), some (zI v1), some (zI (s.1 + 1)), some (zI v3)]) dJ7_fill_53178_14 rfl rfl (by decide) rfl ?_
      refine V_goto 5 dJ7_fill_53178_17 (by decide) ?_
      exact kc ((s.1 + 1), (wi s.2 29 0 (zn s.1) v1)) (zinj h)
theorem wJ7_fill_29 {E : zE} {d : Nat} (hd : 0 ≤ d) {Q : Option zV → zM → Prop} {v1 : Int32} {mm : zM} {o : zM} (h : fJ7_fill_29 v1 mm = some o) (hQ : ∀ r, o = r → Q none r) : V E RJ7 cJ7_fill_53178 4 none d Q 0 [some (zK 29 0), some (zI v1), none, none] [] mm := by
  unfold fJ7_fill_29 at h
  refine V_iconst 1 rfl (v := 0) dJ7_fill_53178_0 (by decide) ?_
  refine V_istore_n 2 rfl 2 (L' := [some (zK 29 0), some (zI v1), some (zI 0), none]) dJ7_fill_53178_1 rfl (by decide) rfl ?_
  refine V_aload_n 3 rfl 0 dJ7_fill_53178_2 rfl rfl ?_
  refine V_alen 4 rfl 4096 dJ7_fill_53178_3 rfl (by decide) (by decide) ?_
  refine V_istore_n 5 rfl 3 (L' := [some (zK 29 0), some (zI v1), some (zI 0), some (zI 4096)]) dJ7_fill_53178_4 rfl (by decide) rfl ?_
  obtain ⟨o3, h1, h⟩ := zbd h
  refine wJ7_fill_29_L5 hd h1 (fun y1 e => ?_)
  have h := zcl_ e h
  exact V_vret dJ7_fill_53178_20 rfl (hQ y1 (zinj h))
theorem ctJ7_fill_29 {E : zE} {d : Nat} (hd : 0 ≤ d) {v1 : Int32} {mm : zM} {o : zM} (h : fJ7_fill_29 v1 mm = some o) : zOC E yJ7_fill_53178 cJ7_fill_53178 4 none d [zK 29 0, zI v1] mm none o :=
  zCT_of (by decide) (Nat.le_of_ble_eq_true rfl) (zk_k (zk_i zk_0)) rfl (wJ7_fill_29 hd h (fun r e => ⟨rfl, by rw [e]⟩))
def fX3_canFollow (v1 : Int32) (v2 : Int32) (mm : zM) : Option Int32 :=
  (fX9_hasBit ((((gi mm 3 0 2)) &&& ((v1 ^^^ ((-1)))))) v2 mm).bind (fun x1 => if x1 = 0 then (some 0) else (zob (zin v2 12) (if (((gi mm 28 0 (zn v2))) &&& ((v1 ^^^ ((-1))))) = 0 then (some 1) else (some 0))))
theorem wX3_canFollow {E : zE} {d : Nat} (hd : 1 ≤ d) {Q : Option zV → zM → Prop} {v1 : Int32} {v2 : Int32} {mm : zM} {o : Int32} (h : fX3_canFollow v1 v2 mm = some o) (hQ : ∀ r, o = r → Q (some (zI r)) mm) : V E RX3 cX3_canFollow 3 (some .boolean) d Q 0 [some (zK 3 0), some (zI v1), some (zI v2)] [] mm := by
  unfold fX3_canFollow at h
  refine V_aload_n 1 rfl 0 dX3_canFollow_0 rfl rfl ?_
  refine V_geti 4 rfl dX3_canFollow_1 fl_X3_18 rfl ?_
  refine V_iload_n 5 rfl 1 dX3_canFollow_4 rfl rfl ?_
  refine V_iconst 6 rfl (v := (-1)) dX3_canFollow_5 (by decide) ?_
  refine V_ixor 7 rfl dX3_canFollow_6 ?_
  refine V_iand 8 rfl dX3_canFollow_7 ?_
  refine V_iload_n 9 rfl 2 dX3_canFollow_8 rfl rfl ?_
  obtain ⟨x1, h1, h⟩ := zbd h
  refine V_cN 12 rfl 0 [zI (((gi mm 3 0 2)) &&& ((v1 ^^^ ((-1))))), zI v2] [] dX3_canFollow_9 cn_X3_33 (ctX9_hasBit (Nat.le_refl 0) h1) (Nat.le_trans (by decide) hd) rfl rfl (Nat.le_of_ble_eq_true rfl) zoki rfl ?_
  refine V_if_eq 15 32 rfl dX3_canFollow_12 (by decide) (fun c => ?_) (fun c => ?_)
  · have h := zpos c h
    refine V_iconst 33 rfl (v := 0) dX3_canFollow_32 (by decide) ?_
    exact V_zret dX3_canFollow_33 rfl rfl (hQ 0 (zinj h))
  · have h := zneg c h
    refine V_aload_n 16 rfl 0 dX3_canFollow_15 rfl rfl ?_
    refine V_getr 19 rfl 28 0 dX3_canFollow_16 fl_X3_9 rfl rfl rfl ?_
    refine V_iload_n 20 rfl 2 dX3_canFollow_19 rfl rfl ?_
    obtain ⟨hi, h⟩ := zobd h
    refine V_iald 21 rfl dX3_canFollow_20 rfl hi ?_
    refine V_iload_n 22 rfl 1 dX3_canFollow_21 rfl rfl ?_
    refine V_iconst 23 rfl (v := (-1)) dX3_canFollow_22 (by decide) ?_
    refine V_ixor 24 rfl dX3_canFollow_23 ?_
    refine V_iand 25 rfl dX3_canFollow_24 ?_
    refine V_if_ne 28 32 rfl dX3_canFollow_25 (by decide) (fun c => ?_) (fun c => ?_)
    · have h := zneg c h
      refine V_iconst 33 rfl (v := 0) dX3_canFollow_32 (by decide) ?_
      exact V_zret dX3_canFollow_33 rfl rfl (hQ 0 (zinj h))
    · have h := zpos c h
      refine V_iconst 29 rfl (v := 1) dX3_canFollow_28 (by decide) ?_
      refine V_goto 33 dX3_canFollow_29 (by decide) ?_
      exact V_zret dX3_canFollow_33 rfl rfl (hQ 1 (zinj h))
theorem ctX3_canFollow {E : zE} {d : Nat} (hd : 1 ≤ d) {v1 : Int32} {v2 : Int32} {mm : zM} {o : Int32} (h : fX3_canFollow v1 v2 mm = some o) : zOC E yX3_canFollow cX3_canFollow 3 (some .boolean) d [zK 3 0, zI v1, zI v2] mm (some (zI o)) mm :=
  zCT_of (by decide) (Nat.le_of_ble_eq_true rfl) (zk_k (zk_i (zk_i zk_0))) rfl (wX3_canFollow hd h (fun r e => ⟨by rw [e], rfl⟩))
def fX3_addNext_L2 (v1 : Int32) (s : (Int32 × zM)) : Option ((Int32 × zM) ⊕ (zM ⊕ Empty)) :=
  if 12 ≤ s.1 then (some (.inr (.inl s.2))) else ((fX3_canFollow v1 s.1 s.2).bind (fun x1 => if x1 = 0 then (some (.inl ((s.1 + 1), s.2))) else (zob (zin ((v1 ||| ((1 <<< (s.1 &&& 31))))) 4096) (zob (zin v1 4096) (zob (zin ((v1 ||| ((1 <<< (s.1 &&& 31))))) 4096) (some (.inl ((s.1 + 1), (wi s.2 29 0 (zn ((v1 ||| ((1 <<< (s.1 &&& 31)))))) ((((gi s.2 29 0 (zn ((v1 ||| ((1 <<< (s.1 &&& 31)))))))) + ((gi s.2 29 0 (zn v1))))))))))))))
def fX3_addNext (v1 : Int32) (mm : zM) : Option zM :=
  (zloop (fX3_addNext_L2 v1) zF (0, mm)).bind (fun o4 => zcase o4 (fun y2 => some y2) (fun r3 => r3.elim))
theorem wX3_addNext_L2 {E : zE} {d : Nat} (hd : 2 ≤ d) {Q : Option zV → zM → Prop} {v1 : Int32} {n : Nat} {s : (Int32 × zM)} {o : zM ⊕ Empty} (h : zloop (fX3_addNext_L2 v1) n s = some o) (he : ∀ y : zM, o = .inl y → V E RX3 cX3_addNext 3 none d Q 42 [none, none, none] [] y) : V E RX3 cX3_addNext 3 none d Q 2 [some (zK 3 0), some (zI v1), some (zI s.1)] [] s.2 := by
  induction n generalizing s with
  | zero => exact (zloop_0 h).elim
  | succ n ih =>
    obtain ⟨o1, h1, hc1, he1⟩ := zloop_s h
    have kc : ∀ s' : (Int32 × zM), o1 = .inl s' → V E RX3 cX3_addNext 3 none d Q 2 [some (zK 3 0), some (zI v1), some (zI s'.1)] [] s'.2 := fun s' e => ih (hc1 s' e)
    have ke : ∀ y : zM, o1 = .inr (.inl y) → V E RX3 cX3_addNext 3 none d Q 42 [none, none, none] [] y := fun y e => he y (he1 _ e)
    clear h hc1 he1 ih
    have h := h1
    clear h1
    unfold fX3_addNext_L2 at h
    refine V_iload_n 3 rfl 2 dX3_addNext_2 rfl rfl ?_
    refine V_bipush 5 rfl (v := 12) dX3_addNext_3 (by decide) ?_
    refine V_icmp_ge 8 42 rfl dX3_addNext_5 (by decide) (fun c => ?_) (fun c => ?_)
    · have h := zpos c h
      exact V_w (zsub_n (zsub_n (zsub_n zsub_0))) (ke s.2 (zinj h))
    · have h := zneg c h
      refine V_aload_n 9 rfl 0 dX3_addNext_8 rfl rfl ?_
      refine V_iload_n 10 rfl 1 dX3_addNext_9 rfl rfl ?_
      refine V_iload_n 11 rfl 2 dX3_addNext_10 rfl rfl ?_
      obtain ⟨x1, h1, h⟩ := zbd h
      refine V_cV 14 rfl 1 [zI v1, zI s.1] [] dX3_addNext_11 cv_X3_68 (ctX3_canFollow (Nat.le_refl 1) h1) (Nat.le_trans (by decide) hd) rfl rfl (Nat.le_of_ble_eq_true rfl) zoki rfl ?_
      refine V_if_eq 17 36 rfl dX3_addNext_14 (by decide) (fun c => ?_) (fun c => ?_)
      · have h := zpos c h
        refine V_iinc 39 rfl (s.1 + 1) (L' := [some (zK 3 0), some (zI v1), some (zI (s.1 + 1))]) dX3_addNext_36 rfl rfl (by decide) rfl ?_
        refine V_goto 2 dX3_addNext_39 (by decide) ?_
        exact kc ((s.1 + 1), s.2) (zinj h)
      · have h := zneg c h
        refine V_aload_n 18 rfl 0 dX3_addNext_17 rfl rfl ?_
        refine V_getr 21 rfl 29 0 dX3_addNext_18 fl_X3_15 rfl rfl rfl ?_
        refine V_iload_n 22 rfl 1 dX3_addNext_21 rfl rfl ?_
        refine V_iconst 23 rfl (v := 1) dX3_addNext_22 (by decide) ?_
        refine V_iload_n 24 rfl 2 dX3_addNext_23 rfl rfl ?_
        refine V_ishl 25 rfl dX3_addNext_24 ?_
        refine V_ior 26 rfl dX3_addNext_25 ?_
        refine V_dup2 27 rfl dX3_addNext_26 rfl rfl ?_
        obtain ⟨hi, h⟩ := zobd h
        refine V_iald 28 rfl dX3_addNext_27 rfl hi ?_
        refine V_aload_n 29 rfl 0 dX3_addNext_28 rfl rfl ?_
        refine V_getr 32 rfl 29 0 dX3_addNext_29 fl_X3_15 rfl rfl rfl ?_
        refine V_iload_n 33 rfl 1 dX3_addNext_32 rfl rfl ?_
        obtain ⟨hi, h⟩ := zobd h
        refine V_iald 34 rfl dX3_addNext_33 rfl hi ?_
        refine V_iadd 35 rfl dX3_addNext_34 ?_
        obtain ⟨hi, h⟩ := zobd h
        refine V_iast 36 rfl dX3_addNext_35 rfl hi ?_
        refine V_iinc 39 rfl (s.1 + 1) (L' := [some (zK 3 0), some (zI v1), some (zI (s.1 + 1))]) dX3_addNext_36 rfl rfl (by decide) rfl ?_
        refine V_goto 2 dX3_addNext_39 (by decide) ?_
        exact kc ((s.1 + 1), (wi s.2 29 0 (zn ((v1 ||| ((1 <<< (s.1 &&& 31)))))) ((((gi s.2 29 0 (zn ((v1 ||| ((1 <<< (s.1 &&& 31)))))))) + ((gi s.2 29 0 (zn v1))))))) (zinj h)
theorem wX3_addNext {E : zE} {d : Nat} (hd : 2 ≤ d) {Q : Option zV → zM → Prop} {v1 : Int32} {mm : zM} {o : zM} (h : fX3_addNext v1 mm = some o) (hQ : ∀ r, o = r → Q none r) : V E RX3 cX3_addNext 3 none d Q 0 [some (zK 3 0), some (zI v1), none] [] mm := by
  unfold fX3_addNext at h
  refine V_iconst 1 rfl (v := 0) dX3_addNext_0 (by decide) ?_
  refine V_istore_n 2 rfl 2 (L' := [some (zK 3 0), some (zI v1), some (zI 0)]) dX3_addNext_1 rfl (by decide) rfl ?_
  obtain ⟨o4, h1, h⟩ := zbd h
  refine wX3_addNext_L2 hd h1 (fun y2 e => ?_)
  have h := zcl_ e h
  exact V_vret dX3_addNext_42 rfl (hQ y2 (zinj h))
theorem ctX3_addNext {E : zE} {d : Nat} (hd : 2 ≤ d) {v1 : Int32} {mm : zM} {o : zM} (h : fX3_addNext v1 mm = some o) : zOC E yX3_addNext cX3_addNext 3 none d [zK 3 0, zI v1] mm none o :=
  zCT_of (by decide) (Nat.le_of_ble_eq_true rfl) (zk_k (zk_i zk_0)) rfl (wX3_addNext hd h (fun r e => ⟨rfl, by rw [e]⟩))
def fX3_howMany_L26 (s : (Int32 × zM)) : Option ((Int32 × zM) ⊕ (zM ⊕ Empty)) :=
  if (gi s.2 3 0 2) ≤ s.1 then (some (.inr (.inl s.2))) else (zob (zin s.1 4096) (if (gi s.2 29 0 (zn s.1)) = 0 then (some (.inl ((s.1 + 1), s.2))) else ((fX3_addNext s.1 s.2).bind (fun x3 => some (.inl ((s.1 + 1), x3))))))
def fX3_howMany (mm : zM) : Option (Int64 × zM) :=
  (fX3_hasNone mm).bind (fun x1 => if x1 = 0 then ((fJ7_fill_29 0 mm).bind (fun x2 => (zloop (fX3_howMany_L26) zF (0, (wi x2 29 0 (zn 0) 1))).bind (fun o6 => zcase o6 (fun y4 => zob (zin ((gi y4 3 0 2)) 4096) (some ((((gi y4 29 0 (zn ((gi y4 3 0 2)))) : Int32).toInt64, y4)))) (fun r5 => r5.elim)))) else (some ((0, mm))))
theorem wX3_howMany_L26 {E : zE} {d : Nat} (hd : 3 ≤ d) {Q : Option zV → zM → Prop} {n : Nat} {s : (Int32 × zM)} {o : zM ⊕ Empty} (h : zloop (fX3_howMany_L26) n s = some o) (he : ∀ y : zM, o = .inl y → V E RX3 cX3_howMany 2 (some .long) d Q 54 [some (zK 3 0), none] [] y) : V E RX3 cX3_howMany 2 (some .long) d Q 26 [some (zK 3 0), some (zI s.1)] [] s.2 := by
  induction n generalizing s with
  | zero => exact (zloop_0 h).elim
  | succ n ih =>
    obtain ⟨o1, h1, hc1, he1⟩ := zloop_s h
    have kc : ∀ s' : (Int32 × zM), o1 = .inl s' → V E RX3 cX3_howMany 2 (some .long) d Q 26 [some (zK 3 0), some (zI s'.1)] [] s'.2 := fun s' e => ih (hc1 s' e)
    have ke : ∀ y : zM, o1 = .inr (.inl y) → V E RX3 cX3_howMany 2 (some .long) d Q 54 [some (zK 3 0), none] [] y := fun y e => he y (he1 _ e)
    clear h hc1 he1 ih
    have h := h1
    clear h1
    unfold fX3_howMany_L26 at h
    refine V_iload_n 27 rfl 1 dX3_howMany_26 rfl rfl ?_
    refine V_aload_n 28 rfl 0 dX3_howMany_27 rfl rfl ?_
    refine V_geti 31 rfl dX3_howMany_28 fl_X3_18 rfl ?_
    refine V_icmp_ge 34 54 rfl dX3_howMany_31 (by decide) (fun c => ?_) (fun c => ?_)
    · have h := zpos c h
      exact V_w (zsub_s (zsub_n zsub_0)) (ke s.2 (zinj h))
    · have h := zneg c h
      refine V_aload_n 35 rfl 0 dX3_howMany_34 rfl rfl ?_
      refine V_getr 38 rfl 29 0 dX3_howMany_35 fl_X3_15 rfl rfl rfl ?_
      refine V_iload_n 39 rfl 1 dX3_howMany_38 rfl rfl ?_
      obtain ⟨hi, h⟩ := zobd h
      refine V_iald 40 rfl dX3_howMany_39 rfl hi ?_
      refine V_if_eq 43 48 rfl dX3_howMany_40 (by decide) (fun c => ?_) (fun c => ?_)
      · have h := zpos c h
        refine V_iinc 51 rfl (s.1 + 1) (L' := [some (zK 3 0), some (zI (s.1 + 1))]) dX3_howMany_48 rfl rfl (by decide) rfl ?_
        refine V_goto 26 dX3_howMany_51 (by decide) ?_
        exact kc ((s.1 + 1), s.2) (zinj h)
      · have h := zneg c h
        refine V_aload_n 44 rfl 0 dX3_howMany_43 rfl rfl ?_
        refine V_iload_n 45 rfl 1 dX3_howMany_44 rfl rfl ?_
        obtain ⟨x3, h1, h⟩ := zbd h
        refine V_cV 48 rfl 2 [zI s.1] [] dX3_howMany_45 cv_X3_64 (ctX3_addNext (Nat.le_refl 2) h1) (Nat.le_trans (by decide) hd) rfl rfl (Nat.le_of_ble_eq_true rfl) zokn rfl ?_
        refine V_iinc 51 rfl (s.1 + 1) (L' := [some (zK 3 0), some (zI (s.1 + 1))]) dX3_howMany_48 rfl rfl (by decide) rfl ?_
        refine V_goto 26 dX3_howMany_51 (by decide) ?_
        exact kc ((s.1 + 1), x3) (zinj h)
theorem wX3_howMany {E : zE} {d : Nat} (hd : 3 ≤ d) {Q : Option zV → zM → Prop} {mm : zM} {o : (Int64 × zM)} (h : fX3_howMany mm = some o) (hQ : ∀ r, o = r → Q (some (zJ r.1)) r.2) : V E RX3 cX3_howMany 2 (some .long) d Q 0 [some (zK 3 0), none] [] mm := by
  unfold fX3_howMany at h
  refine V_aload_n 1 rfl 0 dX3_howMany_0 rfl rfl ?_
  obtain ⟨x1, h1, h⟩ := zbd h
  refine V_cV 4 rfl 1 [] [] dX3_howMany_1 cv_X3_60 (ctX3_hasNone (Nat.le_refl 1) h1) (Nat.le_trans (by decide) hd) rfl rfl (Nat.le_of_ble_eq_true rfl) zoki rfl ?_
  refine V_if_eq 7 9 rfl dX3_howMany_4 (by decide) (fun c => ?_) (fun c => ?_)
  · have h := zpos c h
    refine V_aload_n 10 rfl 0 dX3_howMany_9 rfl rfl ?_
    refine V_getr 13 rfl 29 0 dX3_howMany_10 fl_X3_15 rfl rfl rfl ?_
    refine V_iconst 14 rfl (v := 0) dX3_howMany_13 (by decide) ?_
    obtain ⟨x2, h1, h⟩ := zbd h
    refine V_cS 17 rfl 0 [zK 29 0, zI 0] [] dX3_howMany_14 cs_X3_22 (ctJ7_fill_29 (Nat.le_refl 0) h1) (Nat.le_trans (by decide) hd) rfl rfl (Nat.le_of_ble_eq_true rfl) zokn rfl ?_
    refine V_aload_n 18 rfl 0 dX3_howMany_17 rfl rfl ?_
    refine V_getr 21 rfl 29 0 dX3_howMany_18 fl_X3_15 rfl rfl rfl ?_
    refine V_iconst 22 rfl (v := 0) dX3_howMany_21 (by decide) ?_
    refine V_iconst 23 rfl (v := 1) dX3_howMany_22 (by decide) ?_
    refine V_iast 24 rfl dX3_howMany_23 rfl (by decide) ?_
    refine V_iconst 25 rfl (v := 0) dX3_howMany_24 (by decide) ?_
    refine V_istore_n 26 rfl 1 (L' := [some (zK 3 0), some (zI 0)]) dX3_howMany_25 rfl (by decide) rfl ?_
    obtain ⟨o6, h1, h⟩ := zbd h
    refine wX3_howMany_L26 hd h1 (fun y4 e => ?_)
    have h := zcl_ e h
    refine V_aload_n 55 rfl 0 dX3_howMany_54 rfl rfl ?_
    refine V_getr 58 rfl 29 0 dX3_howMany_55 fl_X3_15 rfl rfl rfl ?_
    refine V_aload_n 59 rfl 0 dX3_howMany_58 rfl rfl ?_
    refine V_geti 62 rfl dX3_howMany_59 fl_X3_18 rfl ?_
    obtain ⟨hi, h⟩ := zobd h
    refine V_iald 63 rfl dX3_howMany_62 rfl hi ?_
    refine V_i2l 64 rfl dX3_howMany_63 ?_
    exact V_lret dX3_howMany_64 rfl (hQ ((((gi y4 29 0 (zn ((gi y4 3 0 2)))) : Int32).toInt64, y4)) (zinj h))
  · have h := zneg c h
    refine V_lconst 8 rfl (v := 0) dX3_howMany_7 (by decide) ?_
    exact V_lret dX3_howMany_8 rfl (hQ ((0, mm)) (zinj h))
theorem ctX3_howMany {E : zE} {d : Nat} (hd : 3 ≤ d) {mm : zM} {o : (Int64 × zM)} (h : fX3_howMany mm = some o) : zOC E yX3_howMany cX3_howMany 2 (some .long) d [zK 3 0] mm (some (zJ o.1)) o.2 :=
  zCT_of (by decide) (Nat.le_of_ble_eq_true rfl) (zk_k zk_0) rfl (wX3_howMany hd h (fun r e => ⟨by rw [e], by rw [e]⟩))
