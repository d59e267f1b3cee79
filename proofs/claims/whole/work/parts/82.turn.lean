/-! turn -/
theorem pX5_reverse {v0 p : Nat} {mm : zM} (hn : gi mm 5 v0 1 = nI p) (p4 : p ≤ 4) (p2 : 2 ≤ p) : ok (fX5_reverse v0 mm) (fun m' => ((∀ i, gi m' 5 i 1 = gi mm 5 i 1) ∧ ∀ i s, gi m' 30 i s = if i = v0 ∧ s < p then gi mm 30 v0 (p - 1 - s) else gi mm 30 i s) ∧ FS [5, 30] mm m') := by
  refine ok_fr ?_ (frX5_reverse (ks := [5, 30]) (fun k h => zss (a := [30]) (by decide) k h) (FS_refl mm))
  unfold fX5_reverse
  rw [hn, l1, pk_sub (by omega)]
  refine ok_bind (P := fun o => ∃ m', o = Sum.inl m' ∧ (∀ i, gi m' 5 i 1 = gi mm 5 i 1) ∧ ∀ i s, gi m' 30 i s = if i = v0 ∧ s < p then gi mm 30 v0 (p - 1 - s) else gi mm 30 i s) ?_ (fun o ho => ?_)
  · refine ok_for (fun i s => s.1 = nI i ∧ s.2.1 = nI (p - 1 - i) ∧ (∀ i, gi s.2.2 5 i 1 = gi mm 5 i 1) ∧ ∀ j s', gi s.2.2 30 j s' = if j = v0 ∧ s' < p ∧ (s' < i ∨ p - 1 - i < s') then gi mm 30 v0 (p - 1 - s') else gi mm 30 j s') (a := 0) (b := p / 2) (by omega) (by unfold zF; omega) ⟨rfl, rfl, fun i => rfl, fun j s => ?_⟩ (fun i s _ hi hI => ?_) (fun s hI => ?_)
    · rw [if_neg (by omega)]
    · obtain ⟨s1, s2, m⟩ := s
      obtain ⟨h1, h1b, h2, h3⟩ := hI
      dsimp only at h1 h1b h2 h3
      subst h1; subst h1b
      unfold fX5_reverse_L9
      dsimp only
      refine ok_f (fun q => by have := (nIle (by omega) (by omega)).mp q; omega) ?_
      refine ok_zob (zin_n (by omega) (by omega)) (ok_zob (zin_n (by omega) (by omega)) (ok_zob (zin_n (by omega) (by omega)) (ok_zob (zin_n (by omega) (by omega)) ?_)))
      rw [zn_n (by omega), zn_n (by omega), nI_1, show p - 1 - i = p - 1 - (i + 1) + 1 by omega, pk_m1, ← show p - 1 - i = p - 1 - (i + 1) + 1 by omega]
      refine ok_some (Or.inl ⟨_, rfl, rfl, rfl, fun j => ?_, fun j s' => ?_⟩)
      · dsimp only
        rw [gi_wi, if_neg (by omega), gi_wi, if_neg (by omega)]; exact h2 j
      · dsimp only
        rw [gi_wi, gi_wi]
        by_cases e1 : 30 = 30 ∧ j = v0 ∧ s' = p - 1 - i
        · rw [if_pos e1, if_pos ⟨e1.2.1, by omega, by omega⟩, h3, if_neg (by omega), show p - 1 - s' = i by omega]
        · rw [if_neg e1]
          by_cases e2 : 30 = 30 ∧ j = v0 ∧ s' = i
          · rw [if_pos e2, if_pos ⟨e2.2.1, by omega, by omega⟩, h3, if_neg (by omega), show p - 1 - s' = p - 1 - i by omega]
          · rw [if_neg e2, h3]
            by_cases e3 : j = v0 ∧ s' < p ∧ (s' < i ∨ p - 1 - i < s')
            · rw [if_pos e3, if_pos ⟨e3.1, e3.2.1, by omega⟩]
            · rw [if_neg e3, if_neg (fun q => by
                have n1 : ¬ s' = p - 1 - i := fun z => e1 ⟨rfl, q.1, z⟩
                have n2 : ¬ s' = i := fun z => e2 ⟨rfl, q.1, z⟩
                exact e3 ⟨q.1, q.2.1, by omega⟩)]
    · obtain ⟨s1, s2, m⟩ := s
      obtain ⟨h1, h1b, h2, h3⟩ := hI
      dsimp only at h1 h1b h2 h3
      subst h1; subst h1b
      unfold fX5_reverse_L9
      dsimp only
      refine ok_t ((nIle (by omega) (by omega)).mpr (by omega)) (ok_some ⟨_, rfl, m, rfl, h2, fun j s => ?_⟩)
      rw [h3]
      by_cases e : j = v0 ∧ s < p ∧ (s < p / 2 ∨ p - 1 - p / 2 < s)
      · rw [if_pos e, if_pos ⟨e.1, e.2.1⟩]
      · rw [if_neg e]
        by_cases e2 : j = v0 ∧ s < p
        · have : s = p - 1 - s := by
            have := fun z => e ⟨e2.1, e2.2, z⟩
            omega
          rw [if_pos e2, ← this, e2.1]
        · rw [if_neg e2]
  · obtain ⟨m', rfl, h2⟩ := ho
    exact ok_some h2
theorem call_turn (v1 : Int32) : CALL (fX9_turn v1) (fX10_turn v1) := fun c r hI => by
  obtain ⟨t, w, d, n, a, b, h, nx, hT, hW, hS, hH, hF⟩ := id hI
  have h12 := hW.n12
  unfold fX9_turn fX10_turn
  simp only [hW.1, hW.cTy, hW.rTy, Option.bind_some]
  by_cases t1 : zin v1 n = true ∧ gi r 38 0 (113 * zn v1) = 0
  rotate_left
  · rw [if_neg t1]; exact ok2_some ⟨rfl, hI⟩
  rw [if_pos t1, if_neg n10, if_neg n10]
  obtain ⟨x, hx, rfl, hx3⟩ := zin_e t1.1
  refine ok2_zl (zin_n (by omega) (by omega)) ?_
  rw [zn_n hx3]
  obtain ⟨p, p4, pc, pr, pk⟩ := hW.par hx
  rw [qParents (by omega), Option.bind_some, pc, pr, l2]
  refine ok2_if Iff.rfl (fun hp _ => ?_) (fun _ _ => ok2_some ⟨rfl, hI⟩)
  have p2 : 2 ≤ p := (nIle (by omega) (by omega)).mp hp
  refine ok2_l (pX9_beginAct (t := t) hW hH hx) (fun c1 hC => ?_)
  refine ok2_r (qKeepsPast hH.2.2.2.1 hH.1) (fun r1 hR => ?_)
  have hu1 : uC c1 (12 * w + x) = uC c (12 * w + x) := by rw [hC.1.1, if_neg (by have := hW.2.2.1; omega)]
  have pc1 : gi c1 5 (2 * (12 * w + x)) 1 = nI p := by rw [← uC_ps, hu1, uC_ps]; exact pc
  have er : ∀ s, gi r1 38 0 s = gi r 38 0 s := fun s => FSa hR.2 0 _ (by decide) (by decide)
  have pr1 : gi r1 38 0 (113 * x + 2) = nI p := by rw [er]; exact pr
  refine ok2_l (pX5_reverse pc1 p4 p2) (fun c2 hc2 => ?_)
  rw [l113, pk_mul, nI_add, l1, nI_add]
  refine ok2_r (P := fun o => ∃ m', o = Sum.inl m' ∧ (∀ s, gi m' 38 0 s = if 113 * x + 3 ≤ s ∧ s < 113 * x + 3 + p then gi r1 38 0 (113 * x + 3 + (p - 1 - (s - (113 * x + 3)))) else gi r1 38 0 s) ∧ FS [38] r1 m') ?_ (fun o ho => ?_)
  · refine ok_for (fun i s => s.1 = nI i ∧ (∀ s', gi s.2 38 0 s' = if (113 * x + 3 ≤ s' ∧ s' < 113 * x + 3 + p) ∧ (s' < 113 * x + 3 + i ∨ 113 * x + 3 + (p - 1 - i) < s') then gi r1 38 0 (113 * x + 3 + (p - 1 - (s' - (113 * x + 3)))) else gi r1 38 0 s') ∧ FS [38] r1 s.2) (a := 0) (b := p / 2) (by omega) (by unfold zF; omega) ⟨rfl, fun s => ?_, FS_refl r1⟩ (fun i s hi1 hi hI2 => ?_) (fun s hI2 => ?_)
    · rw [if_neg (by omega)]
    · obtain ⟨s1, m⟩ := s
      obtain ⟨h1, h2, h3⟩ := hI2
      dsimp only at h1 h2 h3
      subst h1
      unfold fX10_turn_L40
      dsimp only
      rw [l2, pk_div (by omega) (by omega) (by omega)]
      refine ok_f (fun q => by have := (nIle (by omega) (by omega)).mp q; omega) ?_
      rw [nI_add, nI_add, l1, pk_sub (by omega), pk_sub (by omega)]
      refine ok_zob (zin_n (by omega) (by omega)) (ok_zob (zin_n (by omega) (by omega)) (ok_zob (zin_n (by omega) (by omega)) (ok_zob (zin_n (by omega) (by omega)) ?_)))
      rw [zn_n (by omega), zn_n (by omega), nI_add]
      refine ok_some (Or.inl ⟨_, rfl, rfl, fun s' => ?_, FS_wa (by decide) (by decide) (FS_wa (by decide) (by decide) h3)⟩)
      dsimp only
      rw [gi_wi, gi_wi]
      by_cases e1 : 38 = 38 ∧ 0 = 0 ∧ s' = 113 * x + 2 + 1 + p - 1 - i
      · rw [if_pos e1, if_pos (by omega), h2, if_neg (by omega), show 113 * x + 3 + (p - 1 - (s' - (113 * x + 3))) = 113 * x + 2 + 1 + i by omega]
      · rw [if_neg e1]
        by_cases e2 : 38 = 38 ∧ 0 = 0 ∧ s' = 113 * x + 2 + 1 + i
        · rw [if_pos e2, if_pos (by omega), h2, if_neg (by omega), show 113 * x + 3 + (p - 1 - (s' - (113 * x + 3))) = 113 * x + 2 + 1 + p - 1 - i by omega]
        · rw [if_neg e2, h2]
          by_cases e3 : (113 * x + 3 ≤ s' ∧ s' < 113 * x + 3 + p) ∧ (s' < 113 * x + 3 + i ∨ 113 * x + 3 + (p - 1 - i) < s')
          · rw [if_pos e3, if_pos ⟨e3.1, by omega⟩]
          · rw [if_neg e3, if_neg (fun q => by
              have n1 : ¬ s' = 113 * x + 2 + 1 + p - 1 - i := fun z => e1 ⟨rfl, rfl, z⟩
              have n2 : ¬ s' = 113 * x + 2 + 1 + i := fun z => e2 ⟨rfl, rfl, z⟩
              exact e3 ⟨q.1, by omega⟩)]
    · obtain ⟨s1, m⟩ := s
      obtain ⟨h1, h2, h3⟩ := hI2
      dsimp only at h1 h2 h3
      subst h1
      unfold fX10_turn_L40
      dsimp only
      rw [l2, pk_div (by omega) (by omega) (by omega)]
      refine ok_t (Int32.le_refl _) (ok_some ⟨_, rfl, m, rfl, fun s => ?_, h3⟩)
      rw [h2]
      by_cases e : (113 * x + 3 ≤ s ∧ s < 113 * x + 3 + p) ∧ (s < 113 * x + 3 + p / 2 ∨ 113 * x + 3 + (p - 1 - p / 2) < s)
      · rw [if_pos e, if_pos e.1]
      · rw [if_neg e]
        by_cases e2 : 113 * x + 3 ≤ s ∧ s < 113 * x + 3 + p
        · have : s = 113 * x + 3 + (p - 1 - (s - (113 * x + 3))) := by
            have := fun z => e ⟨e2, z⟩
            omega
          rw [if_pos e2, ← this]
        · rw [if_neg e2]
  · obtain ⟨y, rfl, hy, fy⟩ := ho
    refine ok2_some ⟨?_, ?_⟩
    · show gi c2 5 (2 * (12 * w + x)) 1 = nI p
      rw [hc2.1.1]; exact pc1
    · refine INV_par (p := p) (p' := p) (f := fun j => p - 1 - j) hT hW hS hH hx hC hR hc2.2 (fun i hi => hc2.1.1 i) (fun i s hi => ?_) fy (fun s hs => ?_) pr p4 p4 (fun j hj => ?_) ?_ (fun j hj => ?_) ?_ (fun j hj => ?_)
      · rw [hc2.1.2, if_neg (fun q => hi q.1)]
      · show gi y 38 0 s = gi r1 38 0 s
        rw [hy, if_neg (by omega)]
      · show p - 1 - j < p
        omega
      · rw [hc2.1.1]; exact pc1
      · show _ = gi c1 30 (2 * (12 * w + x)) (p - 1 - j)
        rw [hc2.1.2, if_pos ⟨rfl, hj⟩]
      · show gi y 38 0 (113 * x + 2) = nI p
        rw [hy, if_neg (by omega)]; exact pr1
      · show gi y 38 0 (113 * x + (3 + j)) = gi r1 38 0 (113 * x + (3 + (p - 1 - j)))
        rw [hy, if_pos (by omega), show 113 * x + 3 + (p - 1 - (113 * x + (3 + j) - (113 * x + 3))) = 113 * x + (3 + (p - 1 - j)) by omega]
