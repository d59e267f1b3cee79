/-! flat, unit, chain, lacks -/
theorem call_flat (v1 v2 v3 : Int32) : CALL (fX9_flat v1 v2 v3) (fX10_flat v1 v2 v3) := fun c r hI => by
  obtain ⟨t, w, d, n, a, b, h, nx, hT, hW, hS, hH, hF⟩ := id hI
  have h12 := hW.n12
  unfold fX9_flat fX10_flat
  simp only [hW.1, hW.cUn, hW.rUn, Option.bind_some, pX9_isLetter, qIn26, qIn5]
  by_cases t1 : zin v1 n = true
  rotate_left
  · rw [if_neg t1]; exact ok2_some ⟨rfl, hI⟩
  rw [if_pos t1, if_neg n10, if_neg n10]
  by_cases t2 : zin v2 26 = true
  rotate_left
  · rw [if_neg t2]; exact ok2_some ⟨rfl, hI⟩
  rw [if_pos t2, if_neg n10, if_neg n10]
  by_cases t3 : zin v3 5 = true
  rotate_left
  · rw [if_neg t3, if_pos rfl]
    by_cases h0 : v3 < 0
    · rw [if_pos h0]; exact ok2_some ⟨rfl, hI⟩
    · obtain ⟨j, hj, rfl⟩ := nI_of h0
      have : ¬ j < 5 := fun q => t3 (zin_n q (by omega))
      rw [if_neg h0, l4, if_neg (fun q => by have := (nIle (by omega) (by omega)).mp q; omega)]
      exact ok2_some ⟨rfl, hI⟩
  rw [if_pos t3, if_neg n10]
  obtain ⟨x, hx, rfl, hx3⟩ := zin_e t1
  obtain ⟨m, hm, rfl, hm3⟩ := zin_e t2
  obtain ⟨q, hq, rfl, hq3⟩ := zin_e t3
  rw [if_neg (nI_pos (by omega)), if_pos (show nI q ≤ 4 from (nIle (b := 4) (by omega) (by omega)).mpr (by omega))]
  refine ok2_bind (lay3 hI hW) (fun c1 r1 h1 => ?_)
  obtain ⟨hI1, hW1, hR, -⟩ := h1
  obtain ⟨k, k4, g1, g2, g3, g4⟩ := hR.1 x m hx hm
  have ek : kdN c1 x m = k := by unfold kdN; rw [g1, zn_n (by omega)]
  rw [hR.kc h12 hx hm, hR.kr h12 hx hm, ek, Option.bind_some, Option.bind_some]
  unfold fX10_flat_J69 fX10_flat_J73 fX10_flat_J74 fX9_flat_J78 fX9_flat_J104 fX0_firstSource fX0_secondSource
  rw [qFlatAt, Option.bind_some, nI_add, zo _ (by omega) (by omega), zn_n (by omega), l26, pk_mul, nI_add, zo _ (by omega) (by omega), zo _ (by omega) (by omega), zn_n (by omega), Nat.mul_comm x 26, Option.bind_some, Option.bind_some]
  match k, k4, g1, g2, g3, g4 with
  | 0, _, g1, g2, g3, g4 =>
    rw [if_pos (show nI 0 = 0 from rfl), if_pos (show nI 0 = 0 from rfl)]
    exact ok2_some ⟨rfl, hI1⟩
  | 2, _, g1, g2, g3, g4 =>
    by_cases z : q = 0
    · subst z
      simp (decide := true) only [if_true, if_false]
      exact ok2_some ⟨by rw [Nat.add_zero, g2], hI1⟩
    · have z' : ¬ nI q = 0 := fun y => z ((nIeq (a := q) (b := 0) (by omega) (by omega)).mp y)
      simp (decide := true) only [if_neg z', if_true, if_false]
      exact ok2_some ⟨rfl, hI1⟩
  | 1, _, g1, g2, g3, g4 =>
    obtain ⟨a1, b1, ha1, hb1, f1, f2, f3, -⟩ := g3 (Or.inl rfl)
    rw [f1]
    match q, hq with
    | 0, _ =>
      simp (decide := true) only [if_true, if_false]
      exact ok2_some ⟨by rw [Nat.add_zero, g2], hI1⟩
    | 1, _ =>
      simp (decide := true) only [if_true, if_false]
      refine ok2_some ⟨?_, hI1⟩
      show nI (26 * a1 + b1) / nI 26 = gi r1 44 0 (5 * (26 * x + m) + 1)
      rw [f2, pk_div (by omega) (by omega) (by omega), show (26 * a1 + b1) / 26 = a1 by omega]
    | 2, _ =>
      simp (decide := true) only [if_true, if_false]
      refine ok2_some ⟨?_, hI1⟩
      show nI (26 * a1 + b1) - nI (26 * a1 + b1) / nI 26 * nI 26 = gi r1 44 0 (5 * (26 * x + m) + 1 + 1)
      rw [f3, pk_rem (by omega) (by omega) (by omega), show (26 * a1 + b1) % 26 = b1 by omega]
    | 3, _ =>
      simp (decide := true) only [if_true, if_false]
      exact ok2_some ⟨rfl, hI1⟩
    | 4, _ =>
      simp (decide := true) only [if_true, if_false]
      exact ok2_some ⟨rfl, hI1⟩
  | 3, _, g1, g2, g3, g4 =>
    obtain ⟨a1, b1, ha1, hb1, f1, f2, f3, -⟩ := g3 (Or.inr rfl)
    obtain ⟨a2, b2, ha2, hb2, f4, f5, f6, -⟩ := g4 rfl
    rw [f1, f4]
    match q, hq with
    | 0, _ =>
      simp (decide := true) only [if_true, if_false]
      exact ok2_some ⟨by rw [Nat.add_zero, g2], hI1⟩
    | 1, _ =>
      simp (decide := true) only [if_true, if_false]
      refine ok2_some ⟨?_, hI1⟩
      show nI (26 * a1 + b1) / nI 26 = gi r1 44 0 (5 * (26 * x + m) + 1)
      rw [f2, pk_div (by omega) (by omega) (by omega), show (26 * a1 + b1) / 26 = a1 by omega]
    | 2, _ =>
      simp (decide := true) only [if_true, if_false]
      refine ok2_some ⟨?_, hI1⟩
      show nI (26 * a1 + b1) - nI (26 * a1 + b1) / nI 26 * nI 26 = gi r1 44 0 (5 * (26 * x + m) + 1 + 1)
      rw [f3, pk_rem (by omega) (by omega) (by omega), show (26 * a1 + b1) % 26 = b1 by omega]
    | 3, _ =>
      simp (decide := true) only [if_true, if_false]
      refine ok2_some ⟨?_, hI1⟩
      show nI (26 * a2 + b2) / nI 26 = gi r1 44 0 (5 * (26 * x + m) + 3)
      rw [f5, pk_div (by omega) (by omega) (by omega), show (26 * a2 + b2) / 26 = a2 by omega]
    | 4, _ =>
      simp (decide := true) only [if_true, if_false]
      refine ok2_some ⟨?_, hI1⟩
      show nI (26 * a2 + b2) - nI (26 * a2 + b2) / nI 26 * nI 26 = gi r1 44 0 (5 * (26 * x + m) + 3 + 1)
      rw [f6, pk_rem (by omega) (by omega) (by omega), show (26 * a2 + b2) % 26 = b2 by omega]
section OW
variable {w d n x : Nat} {c r : zM}
theorem pX7_bits {N : Nat} : fX7_toldBits N c = some (nI (bsN (fun m => decide (¬ gi c 32 N m = -1)) 26)) ∧ fX7_requiredBits N c = some (nI (bsN (fun m => decide (gi c 32 N m = 0)) 26)) := by
  constructor
  · unfold fX7_toldBits
    refine bits_loop (by omega) (fun i S hi hS => ?_) (fun S => ?_)
    · unfold fX7_toldBits_L4
      dsimp only
      rw [l26, if_neg (fun q => by have := (nIle (by omega) (by omega)).mp q; omega), pX7_tells hi, Option.bind_some, set1 (by omega), nI_1]
      by_cases q : gi c 32 N i = -1
      · rw [if_pos q, if_pos (show (0 : Int32) = 0 from rfl), if_neg (by simp [q])]
      · rw [if_neg q, if_neg n10, if_pos (by simp [q])]
    · unfold fX7_toldBits_L4
      dsimp only
      rw [l26, if_pos (Int32.le_refl _)]
  · unfold fX7_requiredBits
    refine bits_loop (by omega) (fun i S hi hS => ?_) (fun S => ?_)
    · unfold fX7_requiredBits_L4
      dsimp only
      rw [l26, if_neg (fun q => by have := (nIle (by omega) (by omega)).mp q; omega), pX7_requires hi, Option.bind_some, set1 (by omega), nI_1]
      by_cases q : gi c 32 N i = 0
      · rw [if_pos q, if_neg n10, if_pos (by simp [q])]
      · rw [if_neg q, if_pos (show (0 : Int32) = 0 from rfl), if_neg (by simp [q])]
    · unfold fX7_requiredBits_L4
      dsimp only
      rw [l26, if_pos (Int32.le_refl _)]
theorem qOwnSet (hW : WLI w d n c r) (hx : x < n) {z : Nat} (hz : z < 2) : fX10_ownSet (nI x) (nI z) r = some (nI (bsN (fun m => decide (¬ gi c 32 (12 * w + x) m = -1) && (z == 0 || decide (gi c 32 (12 * w + x) m = 0))) 26)) := by
  have h12 := hW.n12
  obtain ⟨o, o8, oc, or', om, ol⟩ := hW.own hx
  unfold fX10_ownSet
  have h : ok (zloop (fX10_ownSet_L5 (nI x) (nI z) r) zF (0, 0)) (fun e => ∃ S, e = Sum.inl (nI S) ∧ S < 2 ^ 26 ∧ ∀ y, S.testBit y = true ↔ ∃ j, j < o ∧ gi r 38 0 (113 * x + (65 + 6 * j)) = nI y ∧ y < 26 ∧ (z = 0 ∨ gi r 38 0 (113 * x + (66 + 6 * j)) = 0)) := by
    refine ok_for (fun i s => s.2 = nI i ∧ ∃ S, s.1 = nI S ∧ S < 2 ^ 26 ∧ ∀ y, S.testBit y = true ↔ ∃ j, j < i ∧ gi r 38 0 (113 * x + (65 + 6 * j)) = nI y ∧ y < 26 ∧ (z = 0 ∨ gi r 38 0 (113 * x + (66 + 6 * j)) = 0)) (a := 0) (b := o) (by omega) (by unfold zF; omega) ⟨rfl, 0, rfl, by omega, fun y => ⟨fun q => by simp at q, fun ⟨j, hj, _⟩ => by omega⟩⟩ (fun i s _ hi hI => ?_) (fun s hI => ?_)
    · obtain ⟨s1, s2⟩ := s
      obtain ⟨h1, S, h2, h3, h4⟩ := hI
      dsimp only at h1 h2
      subst h1; subst h2
      obtain ⟨l, l1', l2', l3'⟩ := zin_e (ol i hi)
      unfold fX10_ownSet_L5 fX10_ownSet_J36
      dsimp only
      rw [qOwns (by omega), Option.bind_some, or', qOwnAt, Option.bind_some, Option.bind_some, zo _ (by omega) (by omega), zn_n (by omega), l2', set1 (by omega), nI_1 i, nI_1 (113 * x + (65 + 6 * i)), zo _ (by omega) (by omega), zn_n (by omega), show 113 * x + (65 + 6 * i) + 1 = 113 * x + (66 + 6 * i) by omega, Int32.or_zero]
      refine ok_f (fun q => by have := (nIle (by omega) (by omega)).mp q; omega) ?_
      have yes : (z = 0 ∨ gi r 38 0 (113 * x + (66 + 6 * i)) = 0) → ok (some (Sum.inl (nI (S ||| 2 ^ l), nI (i + 1)) : (Int32 × Int32) ⊕ (Int32 ⊕ Empty))) (fun o' => (∃ s', o' = Sum.inl s' ∧ s'.2 = nI (i + 1) ∧ ∃ S, s'.1 = nI S ∧ S < 2 ^ 26 ∧ ∀ y, S.testBit y = true ↔ ∃ j, j < i + 1 ∧ gi r 38 0 (113 * x + (65 + 6 * j)) = nI y ∧ y < 26 ∧ (z = 0 ∨ gi r 38 0 (113 * x + (66 + 6 * j)) = 0)) ∨ ∃ e, o' = Sum.inr e ∧ ∃ S, e = Sum.inl (nI S) ∧ S < 2 ^ 26 ∧ ∀ y, S.testBit y = true ↔ ∃ j, j < o ∧ gi r 38 0 (113 * x + (65 + 6 * j)) = nI y ∧ y < 26 ∧ (z = 0 ∨ gi r 38 0 (113 * x + (66 + 6 * j)) = 0)) := fun hc => by
        refine ok_some (Or.inl ⟨_, rfl, rfl, S ||| 2 ^ l, rfl, or_lt h3 (Nat.pow_lt_pow_right (by decide) l1'), fun y => ?_⟩)
        rw [tb_set, Bool.or_eq_true, h4, decide_eq_true_iff]
        constructor
        · rintro (⟨j, j1, j2⟩ | q)
          · exact ⟨j, by omega, j2⟩
          · exact ⟨i, by omega, by rw [l2', q], by omega, hc⟩
        · rintro ⟨j, j1, j2, j3, j5⟩
          by_cases e : j = i
          · subst e
            exact Or.inr ((nIeq (by omega) (by omega)).mp (l2'.symm.trans j2))
          · exact Or.inl ⟨j, by omega, j2, j3, j5⟩
      by_cases hz0 : z = 0
      · rw [if_pos (by rw [hz0]; rfl)]; exact yes (Or.inl hz0)
      · rw [if_neg (show ¬ nI z = 0 from fun q => hz0 ((nIeq (b := 0) (by omega) (by omega)).mp q))]
        by_cases hc : gi r 38 0 (113 * x + (66 + 6 * i)) = 0
        · rw [if_pos hc]; exact yes (Or.inr hc)
        · rw [if_neg hc]
          refine ok_some (Or.inl ⟨_, rfl, rfl, S, rfl, h3, fun y => ?_⟩)
          rw [h4]
          constructor
          · rintro ⟨j, j1, j2⟩
            exact ⟨j, by omega, j2⟩
          · rintro ⟨j, j1, j2, j3, j5⟩
            by_cases e : j = i
            · subst e
              exact absurd j5 (fun q => q.elim hz0 hc)
            · exact ⟨j, by omega, j2, j3, j5⟩
    · obtain ⟨s1, s2⟩ := s
      obtain ⟨h1, S, h2, h3, h4⟩ := hI
      dsimp only at h1 h2
      subst h1; subst h2
      unfold fX10_ownSet_L5
      dsimp only
      rw [qOwns (by omega), Option.bind_some, or']
      exact ok_t (Int32.le_refl _) (ok_some ⟨_, rfl, S, rfl, h3, h4⟩)
  obtain ⟨e, e1, S, rfl, h3, h4⟩ := h
  rw [e1]
  show some (nI S) = _
  congr 2
  apply Nat.eq_of_testBit_eq
  intro y
  rw [bsN_tb, Bool.eq_iff_iff, h4]
  by_cases hy : y < 26
  · rw [show decide (y < 26) = true by simp [hy], Bool.true_and]
    cases hzf : zfd (fun k => gi r 38 0 (113 * x + (65 + 6 * k))) (nI y) o with
    | none =>
      have e32 := (om y hy).1 hzf
      constructor
      · rintro ⟨j, j1, j2, -⟩
        exact absurd j2 (zfd_none hzf j j1)
      · intro q
        simp [e32] at q
    | some j =>
      obtain ⟨cn, cn4, e32, e66, -⟩ := (om y hy).2 j hzf
      obtain ⟨j1, j2, -⟩ := zfd_some hzf
      have e32' : ¬ gi c 32 (12 * w + x) y = -1 := by rw [e32]; exact nIm1 (by omega)
      constructor
      · rintro ⟨i, i1, i2, i3, i4⟩
        have : i = j := by
          by_cases q1 : i < j
          · exact absurd (i2.trans j2.symm) (hW.ownd hx or' o8 q1 j1)
          · by_cases q2 : j < i
            · exact absurd (j2.trans i2.symm) (hW.ownd hx or' o8 q2 i1)
            · omega
        subst this
        rcases i4 with q | q
        · simp [e32', q]
        · rw [e66] at q
          simp [e32', e32, q]
      · intro q
        refine ⟨j, j1, j2, hy, ?_⟩
        by_cases hz0 : z = 0
        · exact Or.inl hz0
        · refine Or.inr ?_
          rw [e66]
          simp [hz0, e32] at q
          exact q.2
  · constructor
    · rintro ⟨j, -, -, j3, -⟩
      exact absurd j3 hy
    · intro q
      simp [hy] at q
theorem own_bits (hW : WLI w d n c r) (hx : x < n) : ok2 (fX7_toldBits (12 * w + x) c) (fX10_ownSet (nI x) 0 r) (fun a b => a = b) ∧ ok2 (fX7_requiredBits (12 * w + x) c) (fX10_ownSet (nI x) 1 r) (fun a b => a = b) := by
  have q0 := qOwnSet hW hx (z := 0) (by omega)
  have q1 := qOwnSet hW hx (z := 1) (by omega)
  rw [show nI 0 = 0 from rfl] at q0
  rw [show nI 1 = 1 from rfl] at q1
  rw [q0, q1, pX7_bits.1, pX7_bits.2]
  refine ⟨ok2_some ?_, ok2_some ?_⟩
  · congr 1
    apply Nat.eq_of_testBit_eq
    intro y
    rw [bsN_tb, bsN_tb]
    simp
  · congr 1
    apply Nat.eq_of_testBit_eq
    intro y
    rw [bsN_tb, bsN_tb]
    by_cases q : gi c 32 (12 * w + x) y = 0
    · rw [q]; simp
    · simp [q]
end OW
