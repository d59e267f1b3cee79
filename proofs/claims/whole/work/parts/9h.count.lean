/-! count -/
def dif (b s : Nat) : Nat := b &&& (2 ^ 31 - (s + 1))
theorem dif_tb {b s : Nat} (hb : b < 2 ^ 31) (hs : s < 2 ^ 31) (i : Nat) : (dif b s).testBit i = (b.testBit i && !s.testBit i) := by
  unfold dif
  rw [Nat.testBit_and, Nat.testBit_two_pow_sub_succ hs]
  by_cases h : i < 31
  · simp [h]
  · have : b.testBit i = false := Nat.testBit_lt_two_pow (Nat.lt_of_lt_of_le hb (Nat.pow_le_pow_right (by decide) (by omega)))
    simp [this]
theorem dif_le {b s : Nat} : dif b s ≤ b := Nat.and_le_left
theorem andn {b s : Nat} (hb : b < 2 ^ 31) (hs : s < 2 ^ 31) : nI b &&& (nI s ^^^ (-1)) = nI (dif b s) := by
  apply Int32.toBitVec_inj.1
  show BitVec.ofNat 32 b &&& (BitVec.ofNat 32 s ^^^ (-1 : Int32).toBitVec) = BitVec.ofNat 32 (dif b s)
  have e : (-1 : Int32).toBitVec = BitVec.allOnes 32 := by decide
  rw [e]
  apply BitVec.eq_of_getLsbD_eq
  intro i hi
  rw [BitVec.getLsbD_and, BitVec.getLsbD_xor, BitVec.getLsbD_ofNat, BitVec.getLsbD_ofNat, BitVec.getLsbD_allOnes, BitVec.getLsbD_ofNat, dif_tb hb hs]
  simp [hi]
theorem loop2 {L M : Int32 × Int32 → Option ((Int32 × Int32) ⊕ (Int32 ⊕ Empty))} {n : Nat} (hn : n < 1000) (hgo : ∀ i a, i < n → ok2 (L (a, nI i)) (M (a, nI i)) (fun o p => ∃ a', o = Sum.inl (a', nI (i + 1)) ∧ p = Sum.inl (a', nI (i + 1)))) (hend : ∀ a, L (a, nI n) = some (.inr (.inl a)) ∧ M (a, nI n) = some (.inr (.inl a))) : ∃ a, zloop L zF (0, 0) = some (Sum.inl a) ∧ zloop M zF (0, 0) = some (Sum.inl a) := by
  have h : ok2 (zloop L zF (0, 0)) (zloop M zF (0, 0)) (fun o p => ∃ a, o = Sum.inl a ∧ p = Sum.inl a) := by
    refine ok2_for (fun i s t => ∃ a, s = (a, nI i) ∧ t = (a, nI i)) (a := 0) (b := n) (by omega) (by unfold zF; omega) (by unfold zF; omega) ⟨0, rfl, rfl⟩ (fun i s t _ hi hI => ?_) (fun s t hI => ?_)
    · obtain ⟨a, rfl, rfl⟩ := hI
      refine ok2_mono (hgo i a hi) (fun o p ⟨a', e1, e2⟩ => Or.inl ⟨_, _, e1, e2, a', rfl, rfl⟩)
    · obtain ⟨a, rfl, rfl⟩ := hI
      rw [(hend a).1, (hend a).2]
      exact ok2_some ⟨_, _, rfl, rfl, a, rfl, rfl⟩
  obtain ⟨o, p, e1, e2, a, rfl, rfl⟩ := h
  exact ⟨a, e1, e2⟩
section CT
variable {w d n : Nat} {c r : zM}
theorem traits2 (hW : WLI w d n c r) : ok2 (fX8_traitCount w c) (fX10_traits r) (fun a b => a = b) := by
  have h12 := hW.n12
  unfold fX8_traitCount fX10_traits
  obtain ⟨a, e1, e2⟩ := loop2 (L := fX8_traitCount_L4 w c) (M := fX10_traits_L4 r) (n := n) (by omega) (fun i a hi => by
    unfold fX8_traitCount_L4 fX10_traits_L4
    dsimp only
    rw [hW.2.2.2.2.2.1, n1356, hW.2.2.2.2.2.2.1, zo _ (by omega) (by omega), zn_n (by omega), qIsTrait (by omega), Option.bind_some, (hW.kd hi).1, nI_1]
    refine ok2_fl (fun q => by have := (nIle (by omega) (by omega)).mp q; omega) (ok2_fr' (fun q => by have := (nIle (by omega) (by omega)).mp q; omega) ?_)
    unfold fX10_truth
    rcases (hW.kd hi).2 with q | q
    · rw [q]
      simp (decide := true) only [if_true, if_false, Option.bind_some]
      exact ok2_some ⟨a, rfl, by rw [Int32.add_zero]⟩
    · rw [q]
      simp (decide := true) only [if_true, if_false, Option.bind_some]
      exact ok2_some ⟨a + 1, rfl, rfl⟩) (fun a => by
    unfold fX8_traitCount_L4 fX10_traits_L4
    dsimp only
    rw [hW.2.2.2.2.2.1, n1356, hW.2.2.2.2.2.2.1, if_pos (Int32.le_refl _), if_pos (Int32.le_refl _)]
    exact ⟨rfl, rfl⟩)
  rw [e1, e2]
  exact ok2_some rfl
theorem ty1 (hW : WLI w d n c r) {i : Nat} (hi : i < n) : fX8_isType w (nI i) c = some (if gi r 38 0 (113 * i) = 0 then 1 else 0) := by
  have h12 := hW.n12
  rw [hW.cTy, zn_n (by omega)]
  by_cases q : gi r 38 0 (113 * i) = 0
  · rw [if_pos ⟨zin_n hi (by omega), q⟩, if_pos q]
  · rw [if_neg (fun z => q z.2), if_neg q]
theorem without2 (hW : WLI w d n c r) (hR : RFL n c r) : ∃ a, fX9_bitsWithoutLine c = some a ∧ (zloop (fX10_typesSo_L8 3 r) zF (0, 0)).bind (fun o7 => zcase o7 (fun y5 => some (y5, r)) (fun r6 => r6.elim)) = some (a, r) := by
  have h12 := hW.n12
  unfold fX9_bitsWithoutLine
  obtain ⟨a, e1, e2⟩ := loop2 (L := fX9_bitsWithoutLine_L4 c) (M := fX10_typesSo_L8 3 r) (n := n) (by omega) (fun i a hi => by
    obtain ⟨L, L12, f1, f2, -⟩ := hR.ln hi
    unfold fX9_bitsWithoutLine_L4 fX10_typesSo_L8 fX10_typesSo_J73
    dsimp only
    rw [hW.1, Option.bind_some, Option.bind_some, hW.2.2.2.2.2.1, n1356, hW.2.2.2.2.2.2.1, ty1 hW hi, Option.bind_some, zo _ (by omega) (by omega), zn_n (by omega), f1, f2, qIsTrait (by omega), Option.bind_some, Option.bind_some, nI_1, Int32.or_zero, if_pos (show (3 : Int32) = 3 from rfl), zo _ (by omega) (by omega)]
    refine ok2_fl (fun q => by have := (nIle (by omega) (by omega)).mp q; omega) (ok2_fr' (fun q => by have := (nIle (by omega) (by omega)).mp q; omega) ?_)
    rcases (hW.kd hi).2 with q | q
    · rw [q]
      simp (decide := true) only [if_true, if_false]
      exact ok2_if Iff.rfl (fun _ _ => ok2_some ⟨_, rfl, rfl⟩) (fun _ _ => ok2_some ⟨_, rfl, rfl⟩)
    · rw [q]
      simp (decide := true) only [if_true, if_false, ite_self]
      exact ok2_some ⟨_, rfl, rfl⟩) (fun a => by
    unfold fX9_bitsWithoutLine_L4 fX10_typesSo_L8
    dsimp only
    rw [hW.1, Option.bind_some, hW.2.2.2.2.2.1, n1356, hW.2.2.2.2.2.2.1, if_pos (Int32.le_refl _), if_pos (Int32.le_refl _)]
    exact ⟨rfl, rfl⟩)
  rw [e1, e2]
  exact ⟨a, rfl, rfl⟩
theorem whole2 (hW : WLI w d n c r) (hR : RFL n c r) : ∃ a, fX9_bitsOfWhole c = some a ∧ (zloop (fX10_typesSo_L8 4 r) zF (0, 0)).bind (fun o7 => zcase o7 (fun y5 => some (y5, r)) (fun r6 => r6.elim)) = some (a, r) := by
  have h12 := hW.n12
  unfold fX9_bitsOfWhole
  obtain ⟨a, e1, e2⟩ := loop2 (L := fX9_bitsOfWhole_L4 c) (M := fX10_typesSo_L8 4 r) (n := n) (by omega) (fun i a hi => by
    obtain ⟨L, L12, f1, f2, -⟩ := hR.ln hi
    obtain ⟨l1', l2', g1, g2, g3⟩ := lacks2 hR h12 hi
    obtain ⟨m1, m2, g4, g5, g6⟩ := along2 (k := 3) hR h12 hi (by omega) (by omega)
    subst g3; subst g6
    have g4' : fX9_bitsAlongLine (nI i) 3 c = some m1 := g4
    have g5' : fX10_along (nI i) 3 r = some m1 := g5
    unfold fX9_bitsOfWhole_L4 fX10_typesSo_L8 fX10_typesSo_J72 fX10_typesSo_J73 fX9_bitsOfWhole_J42 fX9_bitsOfWhole_J43
    dsimp only
    rw [hW.1, Option.bind_some, Option.bind_some, hW.2.2.2.2.2.1, n1356, hW.2.2.2.2.2.2.1, ty1 hW hi, Option.bind_some, zo _ (by omega) (by omega), zn_n (by omega), f1, f2, g1, g2, Option.bind_some, Option.bind_some, g4', g5', Option.bind_some, Option.bind_some, qIsTrait (by omega), nI_1, Int32.or_zero, if_neg (show ¬ (4 : Int32) = 3 by decide), zo _ (by omega) (by omega)]
    simp only [Option.bind_some]
    refine ok2_fl (fun q => by have := (nIle (by omega) (by omega)).mp q; omega) (ok2_fr' (fun q => by have := (nIle (by omega) (by omega)).mp q; omega) ?_)
    rcases (hW.kd hi).2 with q | q
    · rw [q]
      simp (decide := true) only [if_true, if_false]
      refine ok2_if Iff.rfl (fun _ _ => ok2_some ⟨_, rfl, rfl⟩) (fun _ _ => ?_)
      refine ok2_if Iff.rfl (fun _ _ => ?_) (fun _ _ => ok2_some ⟨_, rfl, rfl⟩)
      exact ok2_if Iff.rfl (fun _ _ => ok2_some ⟨_, rfl, rfl⟩) (fun _ _ => ok2_some ⟨_, rfl, rfl⟩)
    · rw [q]
      simp (decide := true) only [if_true, if_false, ite_self]
      exact ok2_some ⟨_, rfl, rfl⟩) (fun a => by
    unfold fX9_bitsOfWhole_L4 fX10_typesSo_L8
    dsimp only
    rw [hW.1, Option.bind_some, hW.2.2.2.2.2.1, n1356, hW.2.2.2.2.2.2.1, if_pos (Int32.le_refl _), if_pos (Int32.le_refl _)]
    exact ⟨rfl, rfl⟩)
  rw [e1, e2]
  exact ⟨a, rfl, rfl⟩
theorem longest2 (hW : WLI w d n c r) (hR : RFL n c r) : ∃ a, fX9_longestLine c = some a ∧ (zloop (fX10_most_L8 0 r) zF (0, 0)).bind (fun o7 => zcase o7 (fun y5 => some (y5, r)) (fun r6 => r6.elim)) = some (a, r) := by
  have h12 := hW.n12
  unfold fX9_longestLine
  obtain ⟨a, e1, e2⟩ := loop2 (L := fX9_longestLine_L4 c) (M := fX10_most_L8 0 r) (n := n) (by omega) (fun i a hi => by
    obtain ⟨L, L12, f1, f2, -⟩ := hR.ln hi
    unfold fX9_longestLine_L4 fX10_most_L8
    dsimp only
    rw [hW.1, Option.bind_some, hW.2.2.2.2.2.1, n1356, hW.2.2.2.2.2.2.1, zo _ (by omega) (by omega), zn_n (by omega), f1, if_pos (show (0 : Int32) = 0 from rfl), zo _ (by omega) (by omega), f2, nI_1]
    refine ok2_fl (fun q => by have := (nIle (by omega) (by omega)).mp q; omega) (ok2_fr' (fun q => by have := (nIle (by omega) (by omega)).mp q; omega) ?_)
    exact ok2_some ⟨_, rfl, rfl⟩) (fun a => by
    unfold fX9_longestLine_L4 fX10_most_L8
    dsimp only
    rw [hW.1, Option.bind_some, hW.2.2.2.2.2.1, n1356, hW.2.2.2.2.2.2.1, if_pos (Int32.le_refl _), if_pos (Int32.le_refl _)]
    exact ⟨rfl, rfl⟩)
  rw [e1, e2]
  exact ⟨a, rfl, rfl⟩
theorem confl2 (hW : WLI w d n c r) (hR : RFL n c r) : ∃ a, fX9_conflictCount c = some a ∧ (zloop (fX10_most_L8 1 r) zF (0, 0)).bind (fun o7 => zcase o7 (fun y5 => some (y5, r)) (fun r6 => r6.elim)) = some (a, r) := by
  have h12 := hW.n12
  unfold fX9_conflictCount
  obtain ⟨a, e1, e2⟩ := loop2 (L := fX9_conflictCount_L4 c) (M := fX10_most_L8 1 r) (n := n) (by omega) (fun i a hi => by
    have g1 : fX0_bitsOf (nI i) 3 c = some (nI (bsN (fun m => kdN c i m == 3) 26)) := hR.bc (k := 3) h12 hi (by omega)
    have g2 : fX10_flatSet (nI i) 3 r = some (nI (bsN (fun m => kdN c i m == 3) 26)) := hR.br (k := 3) h12 hi (by omega) (by omega)
    unfold fX9_conflictCount_L4 fX10_most_L8 fJ6_bitCount
    dsimp only
    rw [hW.1, Option.bind_some, hW.2.2.2.2.2.1, n1356, hW.2.2.2.2.2.2.1, if_neg n10, g1, g2, Option.bind_some, Option.bind_some, nI_1]
    refine ok2_fl (fun q => by have := (nIle (by omega) (by omega)).mp q; omega) (ok2_fr' (fun q => by have := (nIle (by omega) (by omega)).mp q; omega) ?_)
    exact ok2_some ⟨_, rfl, rfl⟩) (fun a => by
    unfold fX9_conflictCount_L4 fX10_most_L8
    dsimp only
    rw [hW.1, Option.bind_some, hW.2.2.2.2.2.1, n1356, hW.2.2.2.2.2.2.1, if_pos (Int32.le_refl _), if_pos (Int32.le_refl _)]
    exact ⟨rfl, rfl⟩)
  rw [e1, e2]
  exact ⟨a, rfl, rfl⟩
/-- who stands over somebody is a parent of somebody -/
theorem Rch_par {rw : Nat → Nat → Int32} {n y : Nat} (hp : ∀ v, v < n → ∀ k, k < zn (rw v 2) → zn (rw v (3 + k)) < v) : ∀ f v, v < n → Rch rw f v y → y ≠ v → ∃ u, u ≤ v ∧ ∃ k, k < zn (rw u 2) ∧ y = zn (rw u (3 + k))
  | 0, v, hv, h, hne => absurd h hne
  | f + 1, v, hv, h, hne => by
    rcases h with q | ⟨k, hk, q⟩
    · exact absurd q hne
    · have h1 := hp v hv k hk
      by_cases e : y = zn (rw v (3 + k))
      · exact ⟨v, by omega, k, hk, e⟩
      · obtain ⟨u, u1, u2⟩ := Rch_par hp f _ (by omega) q e
        exact ⟨u, by omega, u2⟩
theorem lowest2 (hW : WLI w d n c r) (hO : OVR n c r) : ok2 (fX9_bitsOfLowest c) (fX10_lowest r) (fun a b => a = b) := by
  have h12 := hW.n12
  have hpl := hW.pl
  unfold fX9_bitsOfLowest fX10_lowest
  refine ok2_bind (P := fun o p => ∃ S B C, o = Sum.inl (nI S, nI B) ∧ p = Sum.inl (nI C, nI S) ∧ B = C) ?_ (fun o p ho => ?_)
  · refine ok2_for (fun i s t => ∃ S B C, s = (nI S, nI B, nI i) ∧ t = (nI C, nI S, nI i) ∧ B < 2 ^ 12 ∧ C < 2 ^ 12 ∧ (∀ y, B.testBit y = true ↔ ∃ v, v < i ∧ rR r 38 0 v 0 = 0 ∧ Rch (fun u => rR r 38 0 u) 12 v y ∧ y ≠ v) ∧ ∀ y, C.testBit y = true ↔ ∃ v, v < i ∧ ∃ k, k < zn (rR r 38 0 v 2) ∧ y = zn (rR r 38 0 v (3 + k))) (a := 0) (b := n) (by omega) (by unfold zF; omega) (by unfold zF; omega) ⟨0, 0, 0, rfl, rfl, by omega, by omega, fun y => ⟨fun q => by simp at q, fun ⟨v, hv, _⟩ => by omega⟩, fun y => ⟨fun q => by simp at q, fun ⟨v, hv, _⟩ => by omega⟩⟩ (fun i s t _ hi hI => ?_) (fun s t hI => ?_)
    · obtain ⟨S, B, C, rfl, rfl, hB, hC, b1, c1⟩ := hI
      obtain ⟨p, p4, pc, pr, pk⟩ := hW.par hi
      have e2 : rR r 38 0 i 2 = nI p := by rw [rR_0 (by omega)]; exact pr
      have inner : ∀ v2 : Int32, ok (zloop (fX10_lowest_L39 v2 (nI i) r) zF (nI C, 0)) (fun o => ∃ C', o = Sum.inl (nI C') ∧ C' < 2 ^ 12 ∧ ∀ y, C'.testBit y = true ↔ ∃ v, v < i + 1 ∧ ∃ k, k < zn (rR r 38 0 v 2) ∧ y = zn (rR r 38 0 v (3 + k))) := fun v2 => by
        refine ok_for (fun j s => s.2 = nI j ∧ ∃ C', s.1 = nI C' ∧ C' < 2 ^ 12 ∧ ∀ y, C'.testBit y = true ↔ ((∃ v, v < i ∧ ∃ k, k < zn (rR r 38 0 v 2) ∧ y = zn (rR r 38 0 v (3 + k))) ∨ ∃ k, k < j ∧ y = zn (rR r 38 0 i (3 + k)))) (a := 0) (b := p) (by omega) (by unfold zF; omega) ⟨rfl, C, rfl, hC, fun y => by
          rw [c1]
          exact ⟨fun q => Or.inl q, fun q => q.elim id (fun ⟨k, hk, _⟩ => by omega)⟩⟩ (fun j s _ hj hI2 => ?_) (fun s hI2 => ?_)
        · obtain ⟨s1, s2⟩ := s
          obtain ⟨f1, C', f2, f3, f4⟩ := hI2
          dsimp only at f1 f2
          subst f1; subst f2
          obtain ⟨-, q, q1, q2, q3⟩ := pk j hj
          have e3 : rR r 38 0 i (3 + j) = nI q := by rw [rR_0 (by omega)]; exact q2
          unfold fX10_lowest_L39
          dsimp only
          rw [qParents (by omega), Option.bind_some, pr, qParentOf (by omega) (by omega), Option.bind_some, q2, set1 (by omega), nI_1]
          refine ok_f (fun z => by have := (nIle (by omega) (by omega)).mp z; omega) (ok_some (Or.inl ⟨_, rfl, rfl, C' ||| 2 ^ q, rfl, or_lt f3 (p12 (by omega)), fun y => ?_⟩))
          rw [tb_set, Bool.or_eq_true, f4, decide_eq_true_iff]
          constructor
          · rintro ((z | ⟨k, k1, k2⟩) | z)
            · exact Or.inl z
            · exact Or.inr ⟨k, by omega, k2⟩
            · exact Or.inr ⟨j, by omega, by rw [e3, zn_n (by omega)]; exact z.symm⟩
          · rintro (z | ⟨k, k1, k2⟩)
            · exact Or.inl (Or.inl z)
            · by_cases ek : k = j
              · subst ek
                rw [e3, zn_n (by omega)] at k2
                exact Or.inr k2.symm
              · exact Or.inl (Or.inr ⟨k, by omega, k2⟩)
        · obtain ⟨s1, s2⟩ := s
          obtain ⟨f1, C', f2, f3, f4⟩ := hI2
          dsimp only at f1 f2
          subst f1; subst f2
          unfold fX10_lowest_L39
          dsimp only
          rw [qParents (by omega), Option.bind_some, pr]
          refine ok_t (Int32.le_refl _) (ok_some ⟨_, rfl, C', rfl, f3, fun y => ?_⟩)
          rw [f4]
          constructor
          · rintro (⟨v, v1, v2⟩ | ⟨k, k1, k2⟩)
            · exact ⟨v, by omega, v2⟩
            · exact ⟨i, by omega, k, by rw [e2, zn_n (by omega)]; exact k1, k2⟩
          · rintro ⟨v, v1, k, k1, k2⟩
            by_cases ev : v = i
            · subst ev
              rw [e2, zn_n (by omega)] at k1
              exact Or.inr ⟨k, k1, k2⟩
            · exact Or.inl ⟨v, by omega, k, k1, k2⟩
      unfold fX9_bitsOfLowest_L6 fX10_lowest_L6 fX10_lowest_J34
      dsimp only
      rw [hW.1, Option.bind_some, Option.bind_some, hW.2.2.2.2.2.1, n1356, hW.2.2.2.2.2.2.1, ty1 hW hi, Option.bind_some, qIsTrait (by omega), Option.bind_some, zo _ (by omega) (by omega), zn_n (by omega), nI_1]
      refine ok2_fl (fun q => by have := (nIle (by omega) (by omega)).mp q; omega) (ok2_fr' (fun q => by have := (nIle (by omega) (by omega)).mp q; omega) ?_)
      rcases (hW.kd hi).2 with q | q
      · rw [q]
        simp (decide := true) only [if_true, if_false]
        obtain ⟨b, b2, b3, b4⟩ := hO i hi (by rw [rR_u0]; exact q)
        rw [set1 (by omega), sh1 (by omega), b3, andn (by omega) (Nat.lt_of_lt_of_le (p12 (by omega)) (by decide)), fa_or]
        refine ok2_r (inner _) (fun o ho => ?_)
        obtain ⟨C', rfl, h1, h2⟩ := ho
        refine ok2_some (Or.inl ⟨_, _, rfl, rfl, S ||| 2 ^ i, B ||| dif b (2 ^ i), C', rfl, rfl, or_lt hB (Nat.lt_of_le_of_lt dif_le b2), h1, fun y => ?_, h2⟩)
        rw [Nat.testBit_or, Bool.or_eq_true, b1, dif_tb (by omega) (Nat.lt_of_lt_of_le (p12 (by omega)) (by decide)), Bool.and_eq_true, b4, Nat.testBit_two_pow]
        constructor
        · rintro (⟨v, v1, v2⟩ | ⟨z1, z2⟩)
          · exact ⟨v, by omega, v2⟩
          · refine ⟨i, by omega, by rw [rR_u0]; exact q, z1, fun z => ?_⟩
            subst z
            simp at z2
        · rintro ⟨v, v1, v2, v3, v4⟩
          by_cases ev : v = i
          · subst ev
            refine Or.inr ⟨v3, ?_⟩
            simp
            exact fun z => v4 z.symm
          · exact Or.inl ⟨v, by omega, v2, v3, v4⟩
      · rw [q]
        simp (decide := true) only [if_true, if_false]
        refine ok2_r (inner _) (fun o ho => ?_)
        obtain ⟨C', rfl, h1, h2⟩ := ho
        refine ok2_some (Or.inl ⟨_, _, rfl, rfl, S, B, C', rfl, by rw [Int32.or_zero], hB, h1, fun y => ?_, h2⟩)
        rw [b1]
        constructor
        · rintro ⟨v, v1, v2⟩
          exact ⟨v, by omega, v2⟩
        · rintro ⟨v, v1, v2, v3⟩
          by_cases ev : v = i
          · subst ev
            rw [rR_u0, q] at v2
            exact absurd v2 n10
          · exact ⟨v, by omega, v2, v3⟩
    · obtain ⟨S, B, C, rfl, rfl, hB, hC, b1, c1⟩ := hI
      unfold fX9_bitsOfLowest_L6 fX10_lowest_L6
      dsimp only
      rw [hW.1, Option.bind_some, hW.2.2.2.2.2.1, n1356, hW.2.2.2.2.2.2.1, if_pos (Int32.le_refl _), if_pos (Int32.le_refl _)]
      refine ok2_some ⟨_, _, rfl, rfl, S, B, C, rfl, rfl, Nat.eq_of_testBit_eq (fun y => ?_)⟩
      rw [Bool.eq_iff_iff, b1, c1]
      constructor
      · rintro ⟨v, v1, v2, v3, v4⟩
        obtain ⟨u, u1, u2⟩ := Rch_par hpl 12 v v1 v3 v4
        exact ⟨u, by omega, u2⟩
      · rintro ⟨v, v1, k, k1, k2⟩
        have h1 := hpl v v1 k k1
        have h2 := ((hW.2.2.2.2.2.2.2.2 v v1).2.1 k k1).2
        refine ⟨v, v1, h2, ?_, by omega⟩
        rw [Rch_12 hpl h12 v1]
        refine Or.inr ⟨k, k1, ?_⟩
        rw [Rch_12 hpl h12 (by show zn (rR r 38 0 v (3 + k)) < n; omega)]
        exact Or.inl k2
  · obtain ⟨S, B, C, rfl, rfl, rfl⟩ := ho
    exact ok2_some rfl
end CT
theorem call_count (v1 : Int32) : CALL (fX9_count v1) (fX10_count v1) := fun c r hI => by
  obtain ⟨t, w, d, n, a, b, h, nx, hT, hW, hS, hH, hF⟩ := id hI
  have h12 := hW.n12
  obtain ⟨c1, r1, e1, e2, hI1, hW1, hR1, hO1⟩ := lay3 hI hW
  obtain ⟨c2, e3, hI2, hW2, hO2⟩ := settle1 hI hW
  have ec : c2 = c1 := Option.some.inj (e3.symm.trans e1)
  subst ec
  obtain ⟨t', w', d', n', a', b', h', nx', hT', hW', hS', hH', -⟩ := id hI2
  unfold fX9_count fX10_count fX10_typesSo fX10_most
  rw [e1, e2, Option.bind_some, Option.bind_some, Option.bind_some, Option.bind_some, n1356]
  refine ok2_if Iff.rfl (fun _ _ => ?_) (fun _ _ => ?_)
  · rw [hW2.1, Option.bind_some, hW2.2.2.2.2.2.1, hW2.2.2.2.2.2.2.1]; exact ok2_some ⟨rfl, hI2⟩
  refine ok2_if Iff.rfl (fun _ _ => ?_) (fun _ _ => ?_)
  · rw [hW2.1, Option.bind_some, Option.bind_some, hW2.2.2.2.2.2.1, hW2.2.2.2.2.2.2.1]
    obtain ⟨x, y, f1, f2, f3⟩ := traits2 hW2
    rw [f1, f2, f3]; exact ok2_some ⟨rfl, hI2⟩
  refine ok2_if Iff.rfl (fun _ _ => ?_) (fun _ _ => ?_)
  · rw [hW2.1, Option.bind_some]; exact ok2_eqm (traits2 hW2) hI2
  refine ok2_if Iff.rfl (fun q _ => ?_) (fun _ _ => ?_)
  · rw [q]
    obtain ⟨x, f1, f2⟩ := without2 hW1 hR1
    rw [f1, f2]; exact ok2_some ⟨rfl, hI1⟩
  refine ok2_if Iff.rfl (fun q _ => ?_) (fun _ _ => ?_)
  · rw [q]
    obtain ⟨x, f1, f2⟩ := whole2 hW1 hR1
    rw [f1, f2]; exact ok2_some ⟨rfl, hI1⟩
  refine ok2_if Iff.rfl (fun q _ => ?_) (fun _ _ => ?_)
  · obtain ⟨x, f1, f2⟩ := longest2 hW1 hR1
    rw [f1, f2]; exact ok2_some ⟨rfl, hI1⟩
  refine ok2_if Iff.rfl (fun q _ => ?_) (fun _ _ => ?_)
  · obtain ⟨x, f1, f2⟩ := confl2 hW1 hR1
    rw [f1, f2]; exact ok2_some ⟨rfl, hI1⟩
  refine ok2_if Iff.rfl (fun q _ => ?_) (fun _ _ => ?_)
  · exact ok2_some ⟨hH'.2.2.1.trans hH'.2.2.2.1.symm, hI2⟩
  refine ok2_if Iff.rfl (fun q _ => ?_) (fun _ _ => ?_)
  · exact ok2_some ⟨hT'.2.1.trans hT'.2.2.1.symm, hI2⟩
  refine ok2_if Iff.rfl (fun q _ => ?_) (fun _ _ => ?_)
  · obtain ⟨s1, s2, s3, s4, s5, -⟩ := hS'
    unfold fX10_truth
    rw [zn0, show zn 1 = 1 from zn_n (a := 1) (by omega), s3, s4, s5]
    match a', s1, b', s2 with
    | 0, _, 0, _ => exact ok2_some ⟨by show nI (0 + 2 * 0) = (0 : Int32) ||| (0 : Int32) <<< ((1 : Int32) &&& 31); decide, hI2⟩
    | 0, _, 1, _ => exact ok2_some ⟨by show nI (0 + 2 * 1) = (0 : Int32) ||| (1 : Int32) <<< ((1 : Int32) &&& 31); decide, hI2⟩
    | 1, _, 0, _ => exact ok2_some ⟨by show nI (1 + 2 * 0) = (1 : Int32) ||| (0 : Int32) <<< ((1 : Int32) &&& 31); decide, hI2⟩
    | 1, _, 1, _ => exact ok2_some ⟨by show nI (1 + 2 * 1) = (1 : Int32) ||| (1 : Int32) <<< ((1 : Int32) &&& 31); decide, hI2⟩
  refine ok2_if Iff.rfl (fun q _ => ok2_eqm (lowest2 hW2 hO2) hI2) (fun _ _ => ok2_some ⟨rfl, hI2⟩)
