/-! orders: prepared, on both sides -/
theorem Dcc_12 {w d n S : Nat} {c r : zM} (hW : WLI w d n c r) {I y v : Nat} (hI : I ≤ n) (h : Dcc (fun u => rR r 38 0 u) S I y v) : y < 12 ∧ v < 12 := by
  have h12 := hW.n12
  obtain ⟨u, u1, u2, k, k1, k2, k3⟩ := h
  obtain ⟨p4, pc, pr, pk⟩ := hW.pz (show u < n by omega)
  have h1 := (pk k k1).1
  refine ⟨by omega, ?_⟩
  rcases k3 with q | ⟨j, j1, j2⟩
  · omega
  · have := (pk j (by omega)).1
    omega
theorem Drr_12 {w d n S : Nat} {c r : zM} (hW : WLI w d n c r) {I y v : Nat} (hI : I ≤ n) (h : Drr (fun u => rR r 38 0 u) S I y v) : y < 12 ∧ v < 12 := by
  have h12 := hW.n12
  obtain ⟨u, u1, u2, k, k1, k2, k3⟩ := h
  obtain ⟨p4, pc, pr, pk⟩ := hW.pz (show u < n by omega)
  have h1 := (pk k k1).1
  refine ⟨by omega, ?_⟩
  rcases k3 with q | ⟨j1, j2⟩
  · omega
  · have := (pk (k - 1) (by omega)).1
    omega
theorem prep {w d n S : Nat} {c r : zM} (hW : WLI w d n c r) (hS : S < 2 ^ 12) : ok (fX3_prepare w (nI S) c) (fun c' => ∃ T, BM c' 28 T ∧ (∀ y v, y < 12 → ((T y).testBit v = true ↔ TCl (Dcc (fun u => rR r 38 0 u) S n) y v)) ∧ gi c' 3 0 2 = nI S ∧ FS [28, 1302] c c') := by
  have h12 := hW.n12
  unfold fX3_prepare
  have fill : ok (fJ7_fill_28 0 (wi c 3 0 2 (nI S))) (fun c' => BM c' 28 (fun _ => 0) ∧ FS [28] (wi c 3 0 2 (nI S)) c') := by
    refine ok_fr ?_ (frJ7_fill_28 (ks := [28]) (fun k h => h) (FS_refl _))
    unfold fJ7_fill_28
    have h : ok (zloop (fJ7_fill_28_L5 0 12) zF (0, wi c 3 0 2 (nI S))) (fun o => ∃ c', o = Sum.inl c' ∧ BM c' 28 (fun _ => 0)) := by
      refine ok_for (fun i s => s.1 = nI i ∧ ∀ j, j < i → gi s.2 28 0 j = 0) (a := 0) (b := 12) (by omega) (by unfold zF; omega) ⟨rfl, fun j hj => by omega⟩ (fun i s _ hi hI => ?_) (fun s hI => ?_)
      · obtain ⟨s1, m⟩ := s
        obtain ⟨h1, h2⟩ := hI
        dsimp only at h1 h2
        subst h1
        unfold fJ7_fill_28_L5
        dsimp only
        rw [l12, zo _ (by omega) (by omega), zn_n (by omega), nI_1]
        refine ok_f (fun q => by have := (nIle (by omega) (by omega)).mp q; omega) (ok_some (Or.inl ⟨_, rfl, rfl, fun j hj => ?_⟩))
        dsimp only
        rw [gi_wi]
        by_cases e : j = i
        · rw [if_pos ⟨rfl, rfl, e⟩]
        · rw [if_neg (by omega)]; exact h2 j (by omega)
      · obtain ⟨s1, m⟩ := s
        obtain ⟨h1, h2⟩ := hI
        dsimp only at h1 h2
        subst h1
        unfold fJ7_fill_28_L5
        dsimp only
        rw [l12]
        exact ok_t (Int32.le_refl _) (ok_some ⟨_, rfl, m, rfl, fun y hy => ⟨by show 0 < 2 ^ 12; decide, h2 y hy⟩⟩)
    obtain ⟨o, e, c', rfl, h⟩ := h
    rw [e]
    exact ok_some h
  refine ok_bind fill (fun c1 h1 => ?_)
  have f1 : FS [28, 1302] c c1 := FS_tr (FS_wf (by decide) (by decide) (FS_refl c)) (FS_mono (zss (by decide)) h1.2)
  have e32 : gi c1 3 0 2 = nI S := by rw [FSf h1.2 0 (by decide) (by decide), gi_wi, if_pos ⟨rfl, rfl, rfl⟩]
  refine ok_bind (P := fun o => ∃ c', o = Sum.inl c' ∧ ∃ T, BM c' 28 T ∧ (∀ y v, y < 12 → ((T y).testBit v = true ↔ Dcc (fun u => rR r 38 0 u) S n y v)) ∧ FS [28, 1302] c c' ∧ gi c' 3 0 2 = nI S) ?_ (fun o ho => ?_)
  · refine ok_for (fun i s => s.1 = nI i ∧ ∃ T, BM s.2 28 T ∧ (∀ y v, y < 12 → ((T y).testBit v = true ↔ Dcc (fun u => rR r 38 0 u) S i y v)) ∧ FS [28, 1302] c s.2 ∧ gi s.2 3 0 2 = nI S) (a := 0) (b := n) (by omega) (by unfold zF; omega) ⟨rfl, fun _ => 0, h1.1, fun y v _ => ⟨fun q => by simp at q, fun ⟨u, hu, _⟩ => by omega⟩, f1, e32⟩ (fun i s _ hi hI => ?_) (fun s hI => ?_)
    · obtain ⟨s1, m⟩ := s
      obtain ⟨i1, T, i2, i3, i4, i5⟩ := hI
      dsimp only at i1 i2 i4 i5
      subst i1
      have e8 : gi m 8 w 1 = nI n := by rw [FSa i4 _ _ (by decide) (by decide)]; exact hW.2.2.2.2.2.1
      unfold fX3_prepare_L15
      dsimp only
      rw [e8, i5, has_c (Nat.lt_of_lt_of_le hS (by decide)) (by omega), Option.bind_some]
      refine ok_f (fun q => by have := (nIle (by omega) (by omega)).mp q; omega) ?_
      by_cases q : S.testBit i = true
      · rw [if_pos q, if_neg n10, zo _ (by omega) (by omega), zn_n (by omega), nI_1]
        refine ok_bind (pX3_tellParents hW hi i4 i2) (fun c2 h2 => ?_)
        obtain ⟨T', j1, j2, j3, j4⟩ := h2
        refine ok_some (Or.inl ⟨_, rfl, rfl, T', j1, fun y v hy => ?_, j3, j4.trans i5⟩)
        rw [j2 y v hy, i3 y v hy]
        constructor
        · rintro (⟨u, u1, u2⟩ | z)
          · exact ⟨u, by omega, u2⟩
          · exact ⟨i, by omega, q, z⟩
        · rintro ⟨u, u1, u2, u3⟩
          by_cases e : u = i
          · subst e; exact Or.inr u3
          · exact Or.inl ⟨u, by omega, u2, u3⟩
      · rw [if_neg q, if_pos (show (0 : Int32) = 0 from rfl), nI_1]
        refine ok_some (Or.inl ⟨_, rfl, rfl, T, i2, fun y v hy => ?_, i4, i5⟩)
        rw [i3 y v hy]
        constructor
        · rintro ⟨u, u1, u2⟩
          exact ⟨u, by omega, u2⟩
        · rintro ⟨u, u1, u2, u3⟩
          by_cases e : u = i
          · subst e; exact absurd u2 q
          · exact ⟨u, by omega, u2, u3⟩
    · obtain ⟨s1, m⟩ := s
      obtain ⟨i1, T, i2, i3, i4, i5⟩ := hI
      dsimp only at i1 i2 i4 i5
      subst i1
      have e8 : gi m 8 w 1 = nI n := by rw [FSa i4 _ _ (by decide) (by decide)]; exact hW.2.2.2.2.2.1
      unfold fX3_prepare_L15
      dsimp only
      rw [e8]
      exact ok_t (Int32.le_refl _) (ok_some ⟨_, rfl, m, rfl, T, i2, i3, i4, i5⟩)
  · obtain ⟨c2, rfl, T, i2, i3, i4, i5⟩ := ho
    show ok ((fX3_closeAhead c2).bind _) _
    refine ok_bind (pX3_close i2 i3 (fun y v q => Dcc_12 hW (Nat.le_refl n) q)) (fun c3 h3 => ?_)
    obtain ⟨⟨T', j1, j2⟩, j3⟩ := h3
    exact ok_some ⟨T', j1, j2, by rw [FSf j3 0 (by decide) (by decide)]; exact i5, FS_tr i4 (FS_mono (zss (by decide)) j3)⟩
theorem ahR {w d n S : Nat} {c r : zM} (hW : WLI w d n c r) (hS : S < 2 ^ 12) : ok (fX10_laysAhead (nI S) r) (fun r' => (∃ A, BM r' 52 A ∧ ∀ y v, y < 12 → ((A y).testBit v = true ↔ Drr (fun u => rR r 38 0 u) S n y v)) ∧ FS [52] r r') := by
  have h12 := hW.n12
  refine ok_fr ?_ (frX10_laysAhead (ks := [52]) (fun k h => h) (FS_refl r))
  unfold fX10_laysAhead
  refine ok_bind (P := fun o => ∃ r', o = Sum.inl r' ∧ BM r' 52 (fun _ => 0) ∧ FS [52] r r') ?_ (fun o ho => ?_)
  · refine ok_for (fun i s => s.1 = nI i ∧ (∀ j, j < i → gi s.2 52 0 j = 0) ∧ FS [52] r s.2) (a := 0) (b := 12) (by omega) (by unfold zF; omega) ⟨rfl, fun j hj => by omega, FS_refl r⟩ (fun i s _ hi hI => ?_) (fun s hI => ?_)
    · obtain ⟨s1, m⟩ := s
      obtain ⟨h1, h2, h3⟩ := hI
      dsimp only at h1 h2 h3
      subst h1
      unfold fX10_laysAhead_L2
      dsimp only
      rw [l12, zo _ (by omega) (by omega), zn_n (by omega), nI_1]
      refine ok_f (fun q => by have := (nIle (by omega) (by omega)).mp q; omega) (ok_some (Or.inl ⟨_, rfl, rfl, fun j hj => ?_, FS_wa (by decide) (by decide) h3⟩))
      dsimp only
      rw [gi_wi]
      by_cases e : j = i
      · rw [if_pos ⟨rfl, rfl, e⟩]
      · rw [if_neg (by omega)]; exact h2 j (by omega)
    · obtain ⟨s1, m⟩ := s
      obtain ⟨h1, h2, h3⟩ := hI
      dsimp only at h1 h2 h3
      subst h1
      unfold fX10_laysAhead_L2
      dsimp only
      rw [l12]
      exact ok_t (Int32.le_refl _) (ok_some ⟨_, rfl, m, rfl, fun y hy => ⟨by show 0 < 2 ^ 12; decide, h2 y hy⟩, h3⟩)
  obtain ⟨r1, rfl, g1, g2⟩ := ho
  show ok ((zloop (fX10_laysAhead_L23 (nI S)) zF (0, r1)).bind _) _
  refine ok_bind (P := fun o => ∃ r', o = Sum.inl r' ∧ ∃ A, BM r' 52 A ∧ ∀ y v, y < 12 → ((A y).testBit v = true ↔ Drr (fun u => rR r 38 0 u) S n y v)) ?_ (fun o ho => ?_)
  · refine ok_for (fun i s => s.1 = nI i ∧ ∃ A, BM s.2 52 A ∧ (∀ y v, y < 12 → ((A y).testBit v = true ↔ Drr (fun u => rR r 38 0 u) S i y v)) ∧ FS [52] r s.2) (a := 0) (b := n) (by omega) (by unfold zF; omega) ⟨rfl, fun _ => 0, g1, fun y v _ => ⟨fun q => by simp at q, fun ⟨u, hu, _⟩ => by omega⟩, g2⟩ (fun i s _ hi hI => ?_) (fun s hI => ?_)
    · obtain ⟨s1, m⟩ := s
      obtain ⟨i1, A, i2, i3, i4⟩ := hI
      dsimp only at i1 i2 i4
      subst i1
      obtain ⟨p4, pc, pr, pk⟩ := hW.pz hi
      generalize hp : pn (fun u => rR r 38 0 u) i = p at p4 pc pr pk
      have e38 : ∀ s, gi m 38 0 s = gi r 38 0 s := fun s => FSa i4 0 s (by decide) (by decide)
      have inner : ok (zloop (fX10_laysAhead_L37 (nI S) (nI i)) zF (0, m)) (fun o => ∃ r', o = Sum.inl r' ∧ ∃ A', BM r' 52 A' ∧ (∀ y v, y < 12 → ((A' y).testBit v = true ↔ ((A y).testBit v = true ∨ (S.testBit i = true ∧ D1r (fun u => rR r 38 0 u) i p y v)))) ∧ FS [52] r r') := by
        refine ok_for (fun k s => s.1 = nI k ∧ ∃ A', BM s.2 52 A' ∧ (∀ y v, y < 12 → ((A' y).testBit v = true ↔ ((A y).testBit v = true ∨ (S.testBit i = true ∧ D1r (fun u => rR r 38 0 u) i k y v)))) ∧ FS [52] r s.2) (a := 0) (b := p) (by omega) (by unfold zF; omega) ⟨rfl, A, i2, fun y v _ => ⟨fun q => Or.inl q, fun q => q.elim id (fun ⟨_, k, hk, _⟩ => by omega)⟩, i4⟩ (fun k s _ hk hI2 => ?_) (fun s hI2 => ?_)
        · obtain ⟨t1, m2⟩ := s
          obtain ⟨j1, A', j2, j3, j4⟩ := hI2
          dsimp only at j1 j2 j4
          subst j1
          have f38 : ∀ s, gi m2 38 0 s = gi r 38 0 s := fun s => FSa j4 0 s (by decide) (by decide)
          obtain ⟨k1, k2, k3⟩ := pk k hk
          unfold fX10_laysAhead_L37 fX10_laysAhead_J101
          dsimp only
          rw [qParents (by omega), Option.bind_some, f38, pr, has_r (Nat.lt_of_lt_of_le hS (by decide)) (by omega), Option.bind_some]
          refine ok_f (fun q => by have := (nIle (by omega) (by omega)).mp q; omega) ?_
          by_cases q : S.testBit i = true
          · rw [if_pos q, if_neg n10, qParentOf (by omega) (by omega), Option.bind_some, f38, k3, zo _ (by omega) (by omega), zo _ (by omega) (by omega), zn_n (by omega), (j2 _ (by omega)).2, set1 (by omega)]
            have w38 : ∀ s, gi (wi m2 52 0 (pa (fun u => rR r 38 0 u) i k) (nI (A' (pa (fun u => rR r 38 0 u) i k) ||| 2 ^ i))) 38 0 s = gi r 38 0 s := fun s => by rw [gi_wi, if_neg (by omega)]; exact f38 s
            have w52 : gi (wi m2 52 0 (pa (fun u => rR r 38 0 u) i k) (nI (A' (pa (fun u => rR r 38 0 u) i k) ||| 2 ^ i))) 52 0 (pa (fun u => rR r 38 0 u) i k) = nI (A' (pa (fun u => rR r 38 0 u) i k) ||| 2 ^ i) := by rw [gi_wi, if_pos ⟨rfl, rfl, rfl⟩]
            rw [qParentOf (by omega) (by omega), Option.bind_some, w38, k3, zo _ (by omega) (by omega), zn_n (by omega), w52, zo _ (by omega) (by omega), nI_1]
            have fin : ∀ X : Nat, X < 2 ^ 12 → (∀ v, X.testBit v = true ↔ (0 < k ∧ v = pa (fun u => rR r 38 0 u) i (k - 1))) → ok (some (Sum.inl (nI (k + 1), wi (wi m2 52 0 (pa (fun u => rR r 38 0 u) i k) (nI (A' (pa (fun u => rR r 38 0 u) i k) ||| 2 ^ i))) 52 0 (pa (fun u => rR r 38 0 u) i k) (nI (A' (pa (fun u => rR r 38 0 u) i k) ||| 2 ^ i) ||| nI X)) : (Int32 × zM) ⊕ (zM ⊕ Empty))) (fun o => (∃ s', o = Sum.inl s' ∧ s'.1 = nI (k + 1) ∧ ∃ A', BM s'.2 52 A' ∧ (∀ y v, y < 12 → ((A' y).testBit v = true ↔ ((A y).testBit v = true ∨ (S.testBit i = true ∧ D1r (fun u => rR r 38 0 u) i (k + 1) y v)))) ∧ FS [52] r s'.2) ∨ ∃ e, o = Sum.inr e ∧ ∃ r', e = Sum.inl r' ∧ ∃ A', BM r' 52 A' ∧ (∀ y v, y < 12 → ((A' y).testBit v = true ↔ ((A y).testBit v = true ∨ (S.testBit i = true ∧ D1r (fun u => rR r 38 0 u) i p y v)))) ∧ FS [52] r r') := fun X hX hX2 => by
              refine ok_some (Or.inl ⟨_, rfl, rfl, up A' (pa (fun u => rR r 38 0 u) i k) (A' (pa (fun u => rR r 38 0 u) i k) ||| 2 ^ i ||| X), fun y hy => ?_, fun y v hy => ?_, FS_wa (by decide) (by decide) (FS_wa (by decide) (by decide) j4)⟩)
              · dsimp only
                rw [gi_wi, fa_or]
                by_cases e : y = pa (fun u => rR r 38 0 u) i k
                · rw [up_e e, if_pos ⟨rfl, rfl, e⟩]
                  exact ⟨or_lt (or_lt (j2 _ (by omega)).1 (p12 (by omega))) hX, rfl⟩
                · rw [up_n e, if_neg (fun z => e z.2.2), gi_wi, if_neg (fun z => e z.2.2)]
                  exact j2 y hy
              · by_cases e : y = pa (fun u => rR r 38 0 u) i k
                · rw [up_e e, Nat.testBit_or, Bool.or_eq_true, tb_set, Bool.or_eq_true, hX2, decide_eq_true_iff, ← e, j3 y v hy]
                  constructor
                  · rintro (((z | ⟨z, k', z1, z2, z3⟩) | z) | z)
                    · exact Or.inl z
                    · exact Or.inr ⟨z, k', by omega, z2, z3⟩
                    · exact Or.inr ⟨q, k, by omega, e, Or.inl z.symm⟩
                    · exact Or.inr ⟨q, k, by omega, e, Or.inr z⟩
                  · rintro (z | ⟨z, k', z1, z2, z3⟩)
                    · exact Or.inl (Or.inl (Or.inl z))
                    · by_cases ek : k' = k
                      · subst ek
                        rcases z3 with z3 | z3
                        · exact Or.inl (Or.inr z3.symm)
                        · exact Or.inr z3
                      · exact Or.inl (Or.inl (Or.inr ⟨z, k', by omega, z2, z3⟩))
                · rw [up_n e, j3 y v hy]
                  constructor
                  · rintro (z | ⟨z, k', z1, z2, z3⟩)
                    · exact Or.inl z
                    · exact Or.inr ⟨z, k', by omega, z2, z3⟩
                  · rintro (z | ⟨z, k', z1, z2, z3⟩)
                    · exact Or.inl z
                    · by_cases ek : k' = k
                      · rw [ek] at z2; exact absurd z2 e
                      · exact Or.inr ⟨z, k', by omega, z2, z3⟩
            by_cases hk0 : k = 0
            · rw [if_pos (show nI k ≤ 0 from (nIle (b := 0) (by omega) (by omega)).mpr (by omega))]
              exact fin 0 (by omega) (fun v => ⟨fun z => by simp at z, fun z => by omega⟩)
            · have kk := pk (k - 1) (by omega)
              rw [if_neg (show ¬ nI k ≤ 0 from fun z => by have := (nIle (b := 0) (by omega) (by omega)).mp z; omega), l1, pk_sub (by omega), qParentOf (by omega) (by omega), Option.bind_some, w38, kk.2.2, zo _ (by omega) (by omega), ← l1, sh1 (by omega)]
              exact fin (2 ^ pa (fun u => rR r 38 0 u) i (k - 1)) (p12 (by omega)) (fun v => by
                rw [Nat.testBit_two_pow, decide_eq_true_iff]
                exact ⟨fun z => ⟨by omega, z.symm⟩, fun z => z.2.symm⟩)
          · rw [if_neg q, if_pos (show (0 : Int32) = 0 from rfl)]
            refine ok_some (Or.inr ⟨_, rfl, m2, rfl, A', j2, fun y v hy => ?_, j4⟩)
            rw [j3 y v hy]
            exact ⟨fun z => z.elim Or.inl (fun x => absurd x.1 q), fun z => z.elim Or.inl (fun x => absurd x.1 q)⟩
        · obtain ⟨t1, m2⟩ := s
          obtain ⟨j1, A', j2, j3, j4⟩ := hI2
          dsimp only at j1 j2 j4
          subst j1
          unfold fX10_laysAhead_L37
          dsimp only
          rw [qParents (by omega), Option.bind_some, FSa j4 0 _ (by decide) (by decide), pr]
          exact ok_t (Int32.le_refl _) (ok_some ⟨_, rfl, m2, rfl, A', j2, j3, j4⟩)
      unfold fX10_laysAhead_L23
      dsimp only
      rw [n1356, e38, hW.2.2.2.2.2.2.1]
      refine ok_f (fun q => by have := (nIle (by omega) (by omega)).mp q; omega) ?_
      obtain ⟨o, eo, r2, rfl, A', j2, j3, j4⟩ := inner
      rw [eo]
      refine ok_some (Or.inl ⟨_, rfl, by rw [nI_1], A', j2, fun y v hy => ?_, j4⟩)
      rw [j3 y v hy, i3 y v hy]
      constructor
      · rintro (⟨u, u1, u2⟩ | ⟨z1, z2⟩)
        · exact ⟨u, by omega, u2⟩
        · exact ⟨i, by omega, z1, by rw [hp]; exact z2⟩
      · rintro ⟨u, u1, u2, u3⟩
        by_cases e : u = i
        · subst e
          rw [hp] at u3
          exact Or.inr ⟨u2, u3⟩
        · exact Or.inl ⟨u, by omega, u2, u3⟩
    · obtain ⟨s1, m⟩ := s
      obtain ⟨i1, A, i2, i3, i4⟩ := hI
      dsimp only at i1 i2 i4
      subst i1
      unfold fX10_laysAhead_L23
      dsimp only
      rw [n1356, FSa i4 0 _ (by decide) (by decide), hW.2.2.2.2.2.2.1]
      exact ok_t (Int32.le_refl _) (ok_some ⟨_, rfl, m, rfl, A, i2, i3⟩)
  · obtain ⟨r2, rfl, h⟩ := ho
    exact ok_some h
