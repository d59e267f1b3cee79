/-! place -/
theorem ahOf {r : zM} {A T : Nat → Nat} {S x : Nat} (h : AT A T S) (hB : BM r 52 A) (hx : x < 12) : fX10_aheadOf (nI x) r = some (nI (T x)) := by
  have hl := l31
  have Tx := (h.2.1 x hx).2
  have Ax := (h.2.1 x hx).1
  have inner : ∀ Q, Q < 2 ^ 12 → ok (zloop (fX10_aheadOf_L19 (nI Q) r) zF (nI Q, 0)) (fun o => ∃ Q', o = Sum.inl (nI Q') ∧ Q' < 2 ^ 12 ∧ ∀ v, Q'.testBit v = true ↔ (Q.testBit v = true ∨ ∃ y, y < 12 ∧ Q.testBit y = true ∧ (A y).testBit v = true)) := by
    intro Q hQ
    refine ok_for (fun i s => ∃ Q', s = (nI Q', nI i) ∧ Q' < 2 ^ 12 ∧ ∀ v, Q'.testBit v = true ↔ (Q.testBit v = true ∨ ∃ y, y < i ∧ Q.testBit y = true ∧ (A y).testBit v = true)) (a := 0) (b := 12) (by omega) (by unfold zF; omega) ⟨Q, rfl, hQ, fun v => ⟨Or.inl, fun q => by rcases q with q | ⟨y, y1, _⟩; exact q; omega⟩⟩ (fun i s _ hi hI => ?_) (fun s hI => ?_)
    · obtain ⟨Q', rfl, hQ', hv⟩ := hI
      unfold fX10_aheadOf_L19
      dsimp only
      rw [l12, if_neg (fun q => by have := (nIle (by omega) (by omega)).mp q; omega), has_r (by omega) (by omega), Option.bind_some, nI_1]
      by_cases y : Q.testBit i = true
      · rw [if_pos y, if_neg n10, zo _ (by omega) (by omega), zn_n (by omega), (hB i hi).2, fa_or]
        refine ok_some (Or.inl ⟨_, rfl, Q' ||| A i, rfl, or_lt hQ' (h.2.1 i hi).1, fun v => ?_⟩)
        rw [Nat.testBit_or, Bool.or_eq_true, hv]
        constructor
        · rintro ((q | ⟨z, z1, z2⟩) | q)
          · exact Or.inl q
          · exact Or.inr ⟨z, by omega, z2⟩
          · exact Or.inr ⟨i, by omega, y, q⟩
        · rintro (q | ⟨z, z1, z2, z3⟩)
          · exact Or.inl (Or.inl q)
          · by_cases e : z = i
            · rw [e] at z3; exact Or.inr z3
            · exact Or.inl (Or.inr ⟨z, by omega, z2, z3⟩)
      · rw [if_neg y, if_pos (show (0 : Int32) = 0 from rfl), show (0 : Int32) = nI 0 from rfl, fa_or, Nat.or_zero]
        refine ok_some (Or.inl ⟨_, rfl, Q', rfl, hQ', fun v => ?_⟩)
        rw [hv]
        constructor
        · rintro (q | ⟨z, z1, z2⟩)
          · exact Or.inl q
          · exact Or.inr ⟨z, by omega, z2⟩
        · rintro (q | ⟨z, z1, z2, z3⟩)
          · exact Or.inl q
          · by_cases e : z = i
            · rw [e] at z2; exact absurd z2 y
            · exact Or.inr ⟨z, by omega, z2, z3⟩
    · obtain ⟨Q', rfl, hQ', hv⟩ := hI
      unfold fX10_aheadOf_L19
      dsimp only
      rw [l12, if_pos (Int32.le_refl _)]
      exact ok_some ⟨_, rfl, Q', rfl, hQ', hv⟩
  have main : ok (zloop (fX10_aheadOf_L9 r) zF (nI (A x), 0)) (fun o => o = Sum.inl (nI (T x))) := by
    refine ok_loop (I := fun n s => ∃ Q H, s = (nI Q, nI H) ∧ Q < 2 ^ 12 ∧ H < 2 ^ 12 ∧ (∀ v, (A x).testBit v = true → Q.testBit v = true) ∧ (∀ v, Q.testBit v = true → (T x).testBit v = true) ∧ (∀ y, H.testBit y = true → Q.testBit y = true ∧ ∀ v, (A y).testBit v = true → Q.testBit v = true) ∧ n = 2 * (4095 - Q) + (if Q = H then 0 else 1)) (fun n s hI => ?_) zF _ _ ⟨A x, 0, rfl, Ax, by omega, fun v hv => hv, fun v hv => AT_sub h hx hv, fun y hy => by simp at hy, rfl⟩ (by unfold zF; split <;> omega)
    obtain ⟨Q, H, rfl, hQ, hH, h1, h2, h3, rfl⟩ := hI
    unfold fX10_aheadOf_L9
    dsimp only
    by_cases e : Q = H
    · subst e
      rw [if_pos rfl]
      refine ok_some (Or.inr ⟨_, rfl, ?_⟩)
      have : Q = T x := Nat.eq_of_testBit_eq (fun v => by
        rw [Bool.eq_iff_iff]
        exact ⟨h2 v, fun hv => AT_cl2 h (fun y hy => (h3 y hy).2) hx h1 hv⟩)
      rw [this]
    · rw [if_neg (fun q => e ((nIeq (by omega) (by omega)).mp q))]
      refine ok_bind (inner Q hQ) (fun o ho => ?_)
      obtain ⟨Q', rfl, q1, q2⟩ := ho
      have le : Q ≤ Q' := by
        have : Q' = Q ||| Q' := Nat.eq_of_testBit_eq (fun v => by
          rw [Nat.testBit_or, Bool.eq_iff_iff, Bool.or_eq_true]
          exact ⟨Or.inr, fun q => by rcases q with q | q; exact (q2 v).mpr (Or.inl q); exact q⟩)
        rw [this]; exact Nat.left_le_or
      refine ok_some (Or.inl ⟨_, _, rfl, ?_, Q', Q, rfl, q1, hQ, fun v hv => (q2 v).mpr (Or.inl (h1 v hv)), fun v hv => ?_, fun y hy => ⟨(q2 y).mpr (Or.inl hy), fun v hv => (q2 v).mpr (Or.inr ⟨y, tb12 hQ hy, hy, hv⟩)⟩, rfl⟩)
      · rw [if_neg e]
        split <;> omega
      · rcases (q2 v).mp hv with q | ⟨y, y1, y2, y3⟩
        · exact h2 v q
        · exact AT_tr h hx (h2 y y2) (AT_sub h y1 y3)
  unfold fX10_aheadOf
  rw [zo _ (by omega) (by omega), zn_n (by omega), (hB x hx).2]
  obtain ⟨o, e, rfl⟩ := main
  rw [e]
  rfl
theorem hi12 : ∀ p, p < 13 → ∀ N, N < 13 → nI p - 1 - nI N < nI 12 := by decide
theorem plc {h : Int32} {l : Nat} {mm : zM} (h1 : h < nI 12) (hl : l ≤ 12) : ∃ a, zloop (fX3_placesOf_L70 h mm) zF (0, nI l) = some (Sum.inl a) := by
  have : ok (zloop (fX3_placesOf_L70 h mm) zF (0, nI l)) (fun o => ∃ a, o = Sum.inl a) := by
    refine ok_for (fun i s => s.2 = nI i) (a := l) (b := 12) (by omega) (by unfold zF; omega) rfl (fun i s _ hi hI => ?_) (fun s hI => ?_)
    · unfold fX3_placesOf_L70
      refine ok_if (fun _ => ok_some (Or.inr ⟨_, rfl, _, rfl⟩)) (fun _ => ok_some (Or.inl ⟨_, rfl, ?_⟩))
      show s.2 + 1 = _
      rw [hI, nI_1]
    · unfold fX3_placesOf_L70
      rw [hI, if_pos h1]
      exact ok_some ⟨_, rfl, _, rfl⟩
  obtain ⟨o, e, a, rfl⟩ := this
  exact ⟨a, e⟩
/-- how many of the first i have x ahead of them -/
def bh (T : Nat → Nat) (x i : Nat) : Nat := sm (fun t => if (T t).testBit x = true then 1 else 0) i
theorem bh_le (T : Nat → Nat) (x : Nat) : ∀ i, bh T x i ≤ i
  | 0 => Nat.le_refl 0
  | i + 1 => by
    have := bh_le T x i
    show bh T x i + (if (T i).testBit x = true then 1 else 0) ≤ i + 1
    split <;> omega
theorem bh_y {T : Nat → Nat} {x i : Nat} (h : (T i).testBit x = true) : bh T x (i + 1) = bh T x i + 1 := by
  show bh T x i + (if (T i).testBit x = true then 1 else 0) = _
  rw [if_pos h]
theorem bh_n {T : Nat → Nat} {x i : Nat} (h : ¬ (T i).testBit x = true) : bh T x (i + 1) = bh T x i := by
  show bh T x i + (if (T i).testBit x = true then 1 else 0) = _
  rw [if_neg h, Nat.add_zero]
theorem sub1 (x : Int32) (a : Nat) : x - nI a - 1 = x - nI (a + 1) := by
  rw [← nI_1, Int32.sub_eq_add_neg, Int32.sub_eq_add_neg, Int32.sub_eq_add_neg, Int32.neg_add, Int32.add_assoc, Int32.sub_eq_add_neg]
theorem call_place (v1 v2 : Int32) : CALL (fX9_place v1 v2) (fX10_place v1 v2) := fun c r hI => by
  obtain ⟨t, w, d, n, a, b, h, nx, hT, hW, hS, hH, hF⟩ := id hI
  have h12 := hW.n12
  have hl := l31
  unfold fX9_place fX10_place
  simp only [hW.1, hW.cTy, hW.rTy, Option.bind_some]
  by_cases t1 : zin v1 n = true ∧ gi r 38 0 (113 * zn v1) = 0
  rotate_left
  · rw [if_neg t1]; exact ok2_some ⟨rfl, hI⟩
  rw [if_pos t1, if_neg n10, if_neg n10]
  by_cases t2 : zin v2 n = true ∧ gi r 38 0 (113 * zn v2) = 0
  rotate_left
  · rw [if_neg t2]; exact ok2_some ⟨rfl, hI⟩
  rw [if_pos t2, if_neg n10, if_neg n10]
  obtain ⟨x, hx, rfl, hx3⟩ := zin_e t1.1
  obtain ⟨z, hz, rfl, hz3⟩ := zin_e t2.1
  have t1' := t1.2
  rw [zn_n hx3] at t1'
  refine ok2_l (settle1 hI hW) (fun c1 h1 => ?_)
  obtain ⟨hI1, hW1, hO1⟩ := h1
  obtain ⟨S, b1, b2, b3, b4⟩ := over_eq hW1 hO1 hx t1'
  have hOv := over_s hW1 hx b1 b4
  have S0 : 0 < S := by
    by_cases q : S = 0
    · have := hOv.2.1
      rw [q] at this
      simp at this
    · omega
  have pS := pc_12 S
  rw [zo _ (by omega) (by omega), zn_n (by omega), b2, b3, Option.bind_some, has_c (by omega) (by omega), has_r (by omega) (by omega), Option.bind_some, Option.bind_some]
  by_cases y : S.testBit z = true
  rotate_left
  · rw [if_neg y]; exact ok2_some ⟨rfl, hI1⟩
  rw [if_pos y, if_neg n10, if_neg n10, hW1.1, Option.bind_some, zo _ (by omega) (by omega), Option.bind_some]
  refine ok2_l (prep hW1 hOv.1) (fun c2 h2 => ?_)
  obtain ⟨T, p1, p2, p3, p4⟩ := h2
  refine ok2_r (cw hW1 hOv.1 S0) (fun b5 h5 => ?_)
  obtain ⟨⟨A, q1, q2, q3⟩, q4⟩ := h5
  have hAT := mkAT hW1 hOv (fun y hy => (q2 y hy).1) q1 (fun y hy => (p1 y hy).1) p2
  have hI3 : INV c2 b5.2 := INV_r (INV_l hI1 p4 (rel_no (by decide))) q4 (rel_no (by decide))
  obtain ⟨o, ho⟩ := IsF_ex (fun y => (T y).testBit y = true) 12
  unfold fX3_placesOf
  rw [pX3_hasNone p1 ho, Option.bind_some, q3]
  cases o with
  | some y =>
    have e0 : Wy (Kb A) S = 0 := by
      by_cases z : Wy (Kb A) S = 0
      · exact z
      · exact absurd ho.2.1 ((ways_iff hAT).mp z y ho.1)
    rw [if_neg (show ¬ lfv (some y) = 0 from n10), if_pos ((lgc (Wy_lt hOv.1)).mpr e0), Option.bind_some]
    exact ok2_some ⟨rfl, hI3⟩
  | none =>
    have en : Wy (Kb A) S ≠ 0 := (ways_iff hAT).mpr ho
    have Tz := (p1 z (by omega)).1
    have pT := pc_12 (T z)
    rw [if_pos (show lfv none = 0 from rfl), if_neg (fun q => en ((lgc (Wy_lt hOv.1)).mp q)), ahOf hAT q2 (by omega), Option.bind_some, bc Tz, Option.bind_some, bc hOv.1, Option.bind_some]
    have e1 : zloop (fX3_placesOf_L13 (nI z) c2) zF (0, 0) = some (Sum.inl (nI (bh T z 12))) := by
      have : ok (zloop (fX3_placesOf_L13 (nI z) c2) zF (0, 0)) (fun o => o = Sum.inl (nI (bh T z 12))) := by
        refine ok_for (fun i s => s = (nI (bh T z i), nI i)) (a := 0) (b := 12) (by omega) (by unfold zF; omega) rfl (fun i s _ hi hI => ?_) (fun s hI => ?_)
        · subst hI
          unfold fX3_placesOf_L13
          dsimp only
          have := (p1 i hi).1
          rw [l12, if_neg (fun q => by have := (nIle (by omega) (by omega)).mp q; omega), zo _ (by omega) (by omega), zn_n (by omega), (p1 i hi).2, has_c (by omega) (by omega), Option.bind_some, nI_1, nI_1]
          by_cases y : (T i).testBit z = true
          · rw [if_pos y, if_neg n10, bh_y y]; exact ok_some (Or.inl ⟨_, rfl, rfl⟩)
          · rw [if_neg y, if_pos (show (0 : Int32) = 0 from rfl), bh_n y]; exact ok_some (Or.inl ⟨_, rfl, rfl⟩)
        · subst hI
          unfold fX3_placesOf_L13
          dsimp only
          rw [l12, if_pos (Int32.le_refl _)]
          exact ok_some ⟨_, rfl, rfl⟩
      obtain ⟨o, e, rfl⟩ := this
      exact e
    have e2 : zloop (fX10_place_L69 (nI z) (nI S) (nI (pc (T z))) b5.2) zF (nI (pc S) - 1, 0) = some (Sum.inl (nI (pc S) - 1 - nI (bh T z 12))) := by
      have : ok (zloop (fX10_place_L69 (nI z) (nI S) (nI (pc (T z))) b5.2) zF (nI (pc S) - 1, 0)) (fun o => o = Sum.inl (nI (pc S) - 1 - nI (bh T z 12))) := by
        refine ok_for (fun i s => s = (nI (pc S) - 1 - nI (bh T z i), nI i)) (a := 0) (b := 12) (by omega) (by unfold zF; omega) (by rw [show nI (bh T z 0) = 0 from rfl, Int32.sub_zero]; rfl) (fun i s _ hi hI => ?_) (fun s hI => ?_)
        · subst hI
          unfold fX10_place_L69 fX10_place_J104 fX10_place_J105
          dsimp only
          have := (p1 i hi).1
          rw [l12, if_neg (fun q => by have := (nIle (by omega) (by omega)).mp q; omega), has_r (by omega) (by omega), Option.bind_some, ahOf hAT q2 hi, Option.bind_some, has_r (by omega) (by omega), Option.bind_some, show fX10_truth 0 b5.2 = some 0 from rfl, show fX10_truth 1 b5.2 = some 1 from rfl, Option.bind_some, Option.bind_some, Int32.sub_zero, sub1, nI_1]
          by_cases y : (T i).testBit z = true
          · rw [if_pos (AT_S hAT hi y).1, if_neg n10, if_pos y, if_neg n10, bh_y y]; exact ok_some (Or.inl ⟨_, rfl, rfl⟩)
          · rw [if_neg y, if_pos (show (0 : Int32) = 0 from rfl), ite_self, bh_n y]; exact ok_some (Or.inl ⟨_, rfl, rfl⟩)
        · subst hI
          unfold fX10_place_L69
          dsimp only
          rw [l12, if_pos (Int32.le_refl _)]
          exact ok_some ⟨_, rfl, rfl⟩
      obtain ⟨o, e, rfl⟩ := this
      exact e
    have hb := bh_le T z 12
    obtain ⟨v, ev⟩ := plc (mm := c2) (hi12 (pc S) (by omega) (bh T z 12) (by omega)) (show pc (T z) ≤ 12 by omega)
    have ev' : zloop (fX10_place_L124 (nI (pc S) - 1 - nI (bh T z 12)) b5.2) zF (0, nI (pc (T z))) = some (Sum.inl v) := ev
    rw [e1, e2, Option.bind_some, Option.bind_some]
    show ok2 _ ((zloop (fX10_place_L124 (nI (pc S) - 1 - nI (bh T z 12)) b5.2) zF (0, nI (pc (T z)))).bind _) _
    rw [ev']
    show ok2 (Option.bind (zob (zin (nI z) 12) _) _) _ _
    rw [zo _ (by omega) (by omega), zn_n (by omega), (p1 z (by omega)).2, bc Tz, Option.bind_some, p3, bc hOv.1, Option.bind_some, ev]
    exact ok2_some ⟨rfl, hI3⟩
