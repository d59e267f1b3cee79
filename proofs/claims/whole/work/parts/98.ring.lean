/-! rings, on both sides -/
theorem ring_seq {u R k0 : Nat} {E H : Nat → Nat} {A : Nat → Nat → Nat} (hP : PRw u R E H A) (hN : IsF (FHk R E H A) R none) (hk0 : k0 < R) (h0 : H k0 < E k0) : ∃ T J : Nat → Nat, T 0 = A k0 (H k0) ∧ ∀ i, T i < u ∧ J i < R ∧ IsF (TLk E H A (T i)) R (some (J i)) ∧ H (J i) < E (J i) ∧ T (i + 1) = A (J i) (H (J i)) := by
  have st : ∀ t, ∃ j, (∃ k, k < R ∧ H k < E k ∧ A k (H k) = t) → (j < R ∧ IsF (TLk E H A t) R (some j) ∧ H j < E j) := fun t => by
    by_cases h : ∃ k, k < R ∧ H k < E k ∧ A k (H k) = t
    · obtain ⟨k, k1, k2, k3⟩ := h
      obtain ⟨o, ho⟩ := IsF_ex (TLk E H A t) R
      cases o with
      | none => exact absurd ⟨k2, by rw [k3]; exact ho⟩ (hN k k1)
      | some j =>
        refine ⟨j, fun _ => ⟨ho.1, ho, ?_⟩⟩
        obtain ⟨i, i1, i2, -⟩ := ho.2.1
        omega
    · exact ⟨0, fun q => absurd q h⟩
  let J' : Nat → Nat := fun t => Classical.choose (st t)
  have hJ' : ∀ t, (∃ k, k < R ∧ H k < E k ∧ A k (H k) = t) → (J' t < R ∧ IsF (TLk E H A t) R (some (J' t)) ∧ H (J' t) < E (J' t)) := fun t => Classical.choose_spec (st t)
  let T : Nat → Nat := fun i => Nat.rec (A k0 (H k0)) (fun _ t => A (J' t) (H (J' t))) i
  have hT : ∀ i, ∃ k, k < R ∧ H k < E k ∧ A k (H k) = T i := fun i => by
    induction i with
    | zero => exact ⟨k0, hk0, h0, rfl⟩
    | succ i ih =>
      obtain ⟨a1, a2, a3⟩ := hJ' (T i) ih
      exact ⟨J' (T i), a1, a3, rfl⟩
  refine ⟨T, fun i => J' (T i), rfl, fun i => ?_⟩
  obtain ⟨a1, a2, a3⟩ := hJ' (T i) (hT i)
  obtain ⟨k, k1, k2, k3⟩ := hT i
  exact ⟨by rw [← k3]; exact (hP.2.2 k k1).2.2 _ k2, a1, a2, a3, rfl⟩
theorem CRw_fs {R : Nat} {E H : Nat → Nat} {A : Nat → Nat → Nat} {c c' : zM} {ks : List Nat} (h : CRw R E H A c) (f : FS ks c c') (hk : ∀ k ∈ [24, 25, 26, 1209], k ∉ ks) : CRw R E H A c' := by
  refine ⟨(FSf f 0 (by decide) (hk 1209 (by decide))).trans h.1, fun k hk2 => ?_⟩
  obtain ⟨q1, q2, q3⟩ := h.2 k hk2
  exact ⟨(FSa f _ _ (by decide) (hk 26 (by decide))).trans q1, (FSa f _ _ (by decide) (hk 25 (by decide))).trans q2, fun i hi => (FSa f _ _ (by decide) (hk 24 (by decide))).trans (q3 i hi)⟩
theorem RRw_fs {R : Nat} {E H : Nat → Nat} {A : Nat → Nat → Nat} {c c' : zM} {ks : List Nat} (h : RRw R E H A c) (f : FS ks c c') (hk : ∀ k ∈ [49, 50, 51], k ∉ ks) : RRw R E H A c' := by
  intro k hk2
  obtain ⟨q1, q2, q3⟩ := h k hk2
  exact ⟨(FSa f _ _ (by decide) (hk 50 (by decide))).trans q1, (FSa f _ _ (by decide) (hk 51 (by decide))).trans q2, fun i hi => (FSa f _ _ (by decide) (hk 49 (by decide))).trans (q3 i hi)⟩
def RingE (u : Nat) (T : Nat → Nat) (c r : zM) (i : Nat) (c' r' : zM) : Prop := i ≤ 12 ∧ FS [27] c c' ∧ (∀ j, j < i → gi c' 27 0 j = nI (T j)) ∧ FS [47] r r' ∧ (∀ j, j < i → gi r' 47 0 (12 * u + j) = nI (T j)) ∧ (∀ s, s < 12 * u ∨ 12 * u + 12 ≤ s → gi r' 47 0 s = gi r 47 0 s) ∧ ∀ a b, a < b → b < i → T a ≠ T b
theorem ring_loop {u R k0 : Nat} {E H : Nat → Nat} {A : Nat → Nat → Nat} {c r : zM} {T J : Nat → Nat} (hu : u < 12) (hP : PRw u R E H A) (hC : CRw R E H A c) (hR : RRw R E H A r) (h0 : T 0 = A k0 (H k0)) (hT : ∀ i, T i < u ∧ J i < R ∧ IsF (TLk E H A (T i)) R (some (J i)) ∧ H (J i) < E (J i) ∧ T (i + 1) = A (J i) (H (J i))) : ok2 (zloop (fX2_ringFrom_L8 (nI u)) zF (nI (A k0 (H k0)), 0, 0, c)) (zloop (fX10_laysRing_L30 (nI u) (nI R)) zF (0, nI (A k0 (H k0)), -1, r)) (fun e e' => ∃ i j0 c' r', e = Sum.inl (nI (T i), nI i, c') ∧ e' = Sum.inl (nI i, nI j0, r') ∧ j0 < i ∧ T j0 = T i ∧ RingE u T c r i c' r') := by
  obtain ⟨R5, u12, hP'⟩ := id hP
  refine ok2_loop (I := fun n s t => ∃ i S, n = 13 - i ∧ s.1 = nI (T i) ∧ s.2.1 = nI i ∧ s.2.2.1 = nI S ∧ S < 2 ^ 12 ∧ (∀ x, S.testBit x = true ↔ ∃ j, j < i ∧ T j = x) ∧ t.1 = nI i ∧ t.2.1 = nI (T i) ∧ ((t.2.2.1 = -1 ∧ ∀ j, j < i → T j ≠ T i) ∨ ∃ j0, j0 < i ∧ t.2.2.1 = nI j0 ∧ T j0 = T i) ∧ RingE u T c r i s.2.2.2 t.2.2.2) (fun n s t hI => ?_) zF zF 13 _ _ ⟨0, 0, by omega, by rw [h0], rfl, rfl, by omega, fun x => ⟨fun q => by simp at q, fun ⟨j, hj, _⟩ => by omega⟩, rfl, by rw [h0], Or.inl ⟨rfl, fun j hj => by omega⟩, by omega, FS_refl c, fun j hj => by omega, FS_refl r, fun j hj => by omega, fun s _ => rfl, fun a b _ hb => by omega⟩ (by unfold zF; omega) (by unfold zF; omega)
  obtain ⟨s1, s2, s3, cc⟩ := s
  obtain ⟨t1, t2, t3, rr⟩ := t
  obtain ⟨i, S, hn, e1, e2, e3, hS, hS2, f1, f2, f3, i12, h27, h27b, h47, h47b, h47c, hd⟩ := hI
  dsimp only at e1 e2 e3 f1 f2 f3 h27 h27b h47 h47b h47c
  subst e1; subst e2; subst e3; subst f1; subst f2
  have p12 : (2 : Nat) ^ 12 = 4096 := by decide
  obtain ⟨tu, Jr, JF, JH, Jn⟩ := hT i
  have iu : i ≤ u := pig u i T (fun j _ => (hT j).1) hd
  unfold fX2_ringFrom_L8 fX10_laysRing_L30
  dsimp only
  rw [has_c (by omega) (by omega), Option.bind_some, l12]
  refine ok2_fl (fun q => by have := (nIle (by omega) (by omega)).mp q; omega) ?_
  rcases f3 with ⟨f3, f4⟩ | ⟨j0, f3, f4, f5⟩
  · subst f3
    have hb : ¬ S.testBit (T i) = true := fun q => by
      obtain ⟨j, j1, j2⟩ := (hS2 _).mp q
      exact f4 j j1 j2
    have hd' : ∀ a b, a < b → b < i + 1 → T a ≠ T b := fun a b hab hb' => by
      by_cases e : b = i
      · rw [e]; exact f4 a (by omega)
      · exact hd a b hab (by omega)
    have iu' : i + 1 ≤ u := pig u (i + 1) T (fun j _ => (hT j).1) hd'
    rw [if_neg hb, if_pos (show (0 : Int32) = 0 from rfl), if_pos rfl, zo _ (by omega) (by omega), zn_n (by omega), pk_mul, nI_add, zo _ (by omega) (by omega), zn_n (by omega)]
    have hC' : CRw R E H A (wi cc 27 0 i (nI (T i))) := CRw_fs hC (FS_wa (by decide) (by decide) h27) (by decide)
    have hR' : RRw R E H A (wi rr 47 0 (12 * u + i) (nI (T i))) := RRw_fs hR (FS_wa (by decide) (by decide) h47) (by decide)
    obtain ⟨pj1, pj2, pj3⟩ := hP' (J i) Jr
    obtain ⟨q1, q2, q3⟩ := hC'.2 (J i) Jr
    rw [pX2_rowWithInTail hP hC' (by omega) JF, qTailOf hP hR' (by omega) JF, Option.bind_some, Option.bind_some, if_neg (zfx_some (by omega)), show zfx (some (J i)) = nI (J i) from rfl, qHeadOf hP hR' Jr, Option.bind_some, if_pos JH, ← Jn, zn_n (by omega), q2, zo _ (by omega) (by omega), zo _ (by omega) (by omega), zo _ (by omega) (by omega), zn_n (by omega), q3 _ JH, ← Jn, set1 (by omega), nI_1]
    have c47 : ∀ j, j < i + 1 → gi (wi rr 47 0 (12 * u + i) (nI (T i))) 47 0 (12 * u + j) = nI (T j) := fun j hj => by
      rw [gi_wi]
      by_cases e : j = i
      · rw [if_pos ⟨rfl, rfl, by rw [e]⟩, e]
      · rw [if_neg (by omega)]; exact h47b j (by omega)
    have hTn := (hT (i + 1)).1
    have sc : ok (zloop (fX10_laysRing_L69 (nI u) (nI R) (nI (i + 1)) (nI (T (i + 1))) (wi rr 47 0 (12 * u + i) (nI (T i)))) zF (-1, 0)) (fun o => ∃ f, o = Sum.inl f ∧ ((f = -1 ∧ ∀ j, j < i + 1 → T j ≠ T (i + 1)) ∨ ∃ j0, j0 < i + 1 ∧ f = nI j0 ∧ T j0 = T (i + 1))) := by
      refine ok_for (fun k s => s.2 = nI k ∧ ((s.1 = -1 ∧ ∀ j, j < k → T j ≠ T (i + 1)) ∨ ∃ j0, j0 < k ∧ s.1 = nI j0 ∧ T j0 = T (i + 1))) (a := 0) (b := i + 1) (by omega) (by unfold zF; omega) ⟨rfl, Or.inl ⟨rfl, fun j hj => by omega⟩⟩ (fun k s _ hk hI => ?_) (fun s hI => ?_)
      · obtain ⟨sa, sb⟩ := s
        obtain ⟨g1, g2⟩ := hI
        dsimp only at g1 g2
        subst g1
        unfold fX10_laysRing_L69
        dsimp only
        rw [l12, pk_mul, nI_add, zo _ (by omega) (by omega), zn_n (by omega), c47 k hk, nI_1]
        refine ok_f (fun q => by have := (nIle (by omega) (by omega)).mp q; omega) ?_
        have hTk := (hT k).1
        by_cases z : T k = T (i + 1)
        · exact ok_t (by rw [z]) (ok_some (Or.inl ⟨_, rfl, rfl, Or.inr ⟨k, by omega, rfl, z⟩⟩))
        · refine ok_f (fun q => z ((nIeq (by omega) (by omega)).mp q)) (ok_some (Or.inl ⟨_, rfl, rfl, ?_⟩))
          rcases g2 with ⟨g2, g3⟩ | ⟨j0, g2, g3, g4⟩
          · refine Or.inl ⟨g2, fun j hj => ?_⟩
            by_cases e : j = k
            · rw [e]; exact z
            · exact g3 j (by omega)
          · exact Or.inr ⟨j0, by omega, g3, g4⟩
      · obtain ⟨sa, sb⟩ := s
        obtain ⟨g1, g2⟩ := hI
        dsimp only at g1 g2
        subst g1
        unfold fX10_laysRing_L69
        dsimp only
        exact ok_t (Int32.le_refl _) (ok_some ⟨_, rfl, sa, rfl, g2⟩)
    refine ok2_r sc (fun o ho => ?_)
    obtain ⟨f, rfl, hf⟩ := ho
    refine ok2_some (Or.inl ⟨_, _, 13 - (i + 1), rfl, rfl, by omega, i + 1, S ||| 2 ^ T i, rfl, rfl, rfl, rfl, or_lt hS (Nat.pow_lt_pow_right (by decide) (by omega)), fun x => ?_, rfl, rfl, hf, by omega, FS_wa (by decide) (by decide) h27, fun j hj => ?_, FS_wa (by decide) (by decide) h47, c47, fun s hs => ?_, hd'⟩)
    · rw [tb_set, Bool.or_eq_true, hS2 x, decide_eq_true_iff]
      constructor
      · rintro (⟨j, j1, j2⟩ | q)
        · exact ⟨j, by omega, j2⟩
        · exact ⟨i, by omega, q⟩
      · rintro ⟨j, j1, j2⟩
        by_cases e : j = i
        · exact Or.inr (by rw [← e]; exact j2)
        · exact Or.inl ⟨j, by omega, j2⟩
    · dsimp only
      rw [gi_wi]
      by_cases e : j = i
      · rw [if_pos ⟨rfl, rfl, e⟩, e]
      · rw [if_neg (by omega)]; exact h27b j (by omega)
    · dsimp only
      rw [gi_wi, if_neg (by omega)]; exact h47c s hs
  · subst f4
    have hb : S.testBit (T i) = true := (hS2 _).mpr ⟨j0, f3, f5⟩
    rw [if_pos hb, if_neg n10, if_neg (nIm1 (by omega))]
    exact ok2_some (Or.inr ⟨_, _, rfl, rfl, i, j0, cc, rr, rfl, rfl, f3, f5, i12, h27, h27b, h47, h47b, h47c, hd⟩)
theorem ring {u R k0 : Nat} {E H : Nat → Nat} {A : Nat → Nat → Nat} {c r : zM} (hu : u < 12) (hP : PRw u R E H A) (hC : CRw R E H A c) (hR : RRw R E H A r) (hN : IsF (FHk R E H A) R none) (hk0 : IsF (fun k => H k < E k) R (some k0)) : ok2 (fX2_ringFrom (nI u) (nI (A k0 (H k0))) c) (fX10_laysRing (nI u) (nI R) r) (fun c' r' => ((∃ K, K ≤ 12 ∧ gi c' 21 0 u = nI K ∧ gi r' 48 0 u = nI K ∧ ∀ i, i < K → gi c' 20 u i = gi r' 47 0 (12 * u + i)) ∧ (∀ v s, v ≠ u → gi c' 20 v s = gi c 20 v s) ∧ (∀ v, v ≠ u → gi c' 21 0 v = gi c 21 0 v) ∧ (∀ s, s < 12 * u ∨ 12 * u + 12 ≤ s → gi r' 47 0 s = gi r 47 0 s) ∧ ∀ v, v ≠ u → gi r' 48 0 v = gi r 48 0 v) ∧ FS [20, 21, 27] c c' ∧ FS [47, 48] r r') := by
  refine ok2_fr ?_ (frX2_ringFrom (ks := [20, 21, 27]) (fun k h => h) (FS_refl c)) (frX10_laysRing (ks := [47, 48]) (fun k h => h) (FS_refl r))
  obtain ⟨T, J, h0, hT⟩ := ring_seq hP hN hk0.1 hk0.2.1
  obtain ⟨R5, u12, hP'⟩ := id hP
  unfold fX2_ringFrom fX10_laysRing
  have k05 := hk0.1
  have sc : ok (zloop (fX10_laysRing_L2 (nI u) (nI R) r) zF 0) (fun o => o = Sum.inl (nI k0)) := by
    refine ok_for (fun i s => s = nI i) (a := 0) (b := k0) (by omega) (by unfold zF; omega) rfl (fun i s _ hi hI => ?_) (fun s hI => ?_)
    · subst hI
      unfold fX10_laysRing_L2
      rw [qHeadOf hP hR (by omega), Option.bind_some, if_neg (hk0.2.2 i hi), if_pos rfl, nI_1]
      exact ok_some (Or.inl ⟨_, rfl, rfl⟩)
    · subst hI
      have := (hP' k0 k05).2.2 _ hk0.2.1
      unfold fX10_laysRing_L2
      rw [qHeadOf hP hR k05, Option.bind_some, if_pos hk0.2.1, if_neg (nIm1 (by omega))]
      exact ok_some ⟨_, rfl, rfl⟩
  refine ok2_r sc (fun o ho => ?_)
  subst ho
  show ok2 _ ((fX10_headOf (nI k0) r).bind _) _
  rw [qHeadOf hP hR k05, Option.bind_some, if_pos hk0.2.1]
  refine ok2_bind (ring_loop hu hP hC hR h0 hT) (fun e e' he => ?_)
  obtain ⟨i, j0, c1, r1, rfl, rfl, j1, j2, i12, h27, h27b, h47, h47b, h47c, hd⟩ := he
  have iu : i ≤ u := pig u i T (fun j _ => (hT j).1) hd
  show ok2 ((zloop (fX2_ringFrom_L82 (nI u) (nI (T i)) (nI i) c1) zF 0).bind _) ((zloop (fX10_laysRing_L115 (nI u) (nI i) (nI j0)) zF (nI j0, r1)).bind _) _
  have sd : ok (zloop (fX2_ringFrom_L82 (nI u) (nI (T i)) (nI i) c1) zF 0) (fun o => o = Sum.inl (nI j0)) := by
    refine ok_for (fun k s => s = nI k) (a := 0) (b := j0) (by omega) (by unfold zF; omega) rfl (fun k s _ hk hI => ?_) (fun s hI => ?_)
    · subst hI
      have a1 := (hT k).1
      have a2 := (hT i).1
      unfold fX2_ringFrom_L82
      rw [zo _ (by omega) (by omega), zn_n (by omega), h27b k (by omega), nI_1, if_neg (fun q => by have := (nIle (by omega) (by omega)).mp q; omega), if_neg (fun q => by
        have := (nIeq (by omega) (by omega)).mp q
        exact hd k j0 hk j1 (this.trans j2.symm))]
      exact ok_some (Or.inl ⟨_, rfl, rfl⟩)
    · subst hI
      unfold fX2_ringFrom_L82
      rw [zo _ (by omega) (by omega), zn_n (by omega), h27b j0 j1, if_neg (fun q => by have := (nIle (by omega) (by omega)).mp q; omega), if_pos (by rw [j2])]
      exact ok_some ⟨_, rfl, rfl⟩
  refine ok2_l sd (fun o ho => ?_)
  subst ho
  have se : ok (zloop (fX10_laysRing_L115 (nI u) (nI i) (nI j0)) zF (nI j0, r1)) (fun o => ∃ r2, o = Sum.inl r2 ∧ ∀ k s, gi r2 k 0 s = if k = 47 ∧ 12 * u ≤ s ∧ s < 12 * u + (i - j0) then nI (T (s - 12 * u + j0)) else gi r1 k 0 s) := by
    refine ok_for (fun k s => s.1 = nI k ∧ ∀ k' s', gi s.2 k' 0 s' = if k' = 47 ∧ 12 * u ≤ s' ∧ s' < 12 * u + (k - j0) then nI (T (s' - 12 * u + j0)) else gi r1 k' 0 s') (a := j0) (b := i) (by omega) (by unfold zF; omega) ⟨rfl, fun k s => by rw [if_neg (by omega)]⟩ (fun k s hk1 hk hI => ?_) (fun s hI => ?_)
    · obtain ⟨sa, m⟩ := s
      obtain ⟨g1, g2⟩ := hI
      dsimp only at g1 g2
      subst g1
      unfold fX10_laysRing_L115
      dsimp only
      rw [l12, pk_mul, nI_add, pk_sub (by omega), zo _ (by omega) (by omega), zo _ (by omega) (by omega), zn_n (by omega), zn_n (by omega), nI_1]
      refine ok_f (fun q => by have := (nIle (by omega) (by omega)).mp q; omega) (ok_some (Or.inl ⟨_, rfl, rfl, fun k' s' => ?_⟩))
      dsimp only
      rw [gi_wi]
      by_cases z : k' = 47 ∧ 0 = 0 ∧ s' = 12 * u + k - j0
      · obtain ⟨z1, -, z3⟩ := z
        subst z1
        rw [if_pos ⟨rfl, rfl, z3⟩, if_pos ⟨rfl, by omega, by omega⟩, g2, if_neg (by omega), h47b k hk, show s' - 12 * u + j0 = k by omega]
      · rw [if_neg z, g2]
        by_cases y : k' = 47 ∧ 12 * u ≤ s' ∧ s' < 12 * u + (k - j0)
        · rw [if_pos y, if_pos ⟨y.1, by omega, by omega⟩]
        · rw [if_neg y, if_neg (fun x => y ⟨x.1, x.2.1, by
            have : s' ≠ 12 * u + k - j0 := fun w => z ⟨x.1, rfl, w⟩
            omega⟩)]
    · obtain ⟨sa, m⟩ := s
      obtain ⟨g1, g2⟩ := hI
      dsimp only at g1 g2
      subst g1
      unfold fX10_laysRing_L115
      dsimp only
      exact ok_t (Int32.le_refl _) (ok_some ⟨_, rfl, m, rfl, g2⟩)
  refine ok2_r se (fun o ho => ?_)
  obtain ⟨r2, rfl, hr2⟩ := ho
  show ok2 (zob (zin (nI u) 12) (zob (zcin (nI j0) 0 (nI i - nI j0) 12 12) (zob (zin (nI u) 12) (some (wi (zcp c1 27 0 (zn (nI j0)) 20 (zn (nI u)) (zn 0) (zn (nI i - nI j0))) 21 0 (zn (nI u)) (nI i - nI j0)))))) (zob (zin (nI u) 12) (some (wi r2 48 0 (zn (nI u)) (nI i - nI j0)))) _
  rw [pk_sub (by omega), zo _ (by omega) (by omega), zob_t _ (show zcin (nI j0) 0 (nI (i - j0)) 12 12 = true from zcin_n (a := j0) (b := 0) (by omega) (by omega) (by omega) (by omega)), zo _ (by omega) (by omega), zo _ (by omega) (by omega), zn_n (by omega), zn_n (by omega), zn_n (by omega), zn0]
  refine ok2_some ⟨⟨i - j0, by omega, ?_, ?_, fun k hk => ?_⟩, fun v s hv => ?_, fun v hv => ?_, fun s hs => ?_, fun v hv => ?_⟩
  · rw [gi_wi, if_pos ⟨rfl, rfl, rfl⟩]
  · rw [gi_wi, if_pos ⟨rfl, rfl, rfl⟩]
  · rw [gi_wi, if_neg (by omega), gi_zcp, if_pos ⟨rfl, rfl, by omega, by omega⟩, h27b _ (by omega), gi_wi, if_neg (by omega), hr2, if_pos ⟨rfl, by omega, by omega⟩, show j0 + (k - 0) = 12 * u + k - 12 * u + j0 by omega]
  · rw [gi_wi, if_neg (by omega), gi_zcp, if_neg (by omega), FSa h27 _ _ (by decide) (by decide)]
  · rw [gi_wi, if_neg (by omega), gi_zcp, if_neg (by omega), FSa h27 _ _ (by decide) (by decide)]
  · rw [gi_wi, if_neg (by omega), hr2, if_neg (by omega)]; exact h47c s hs
  · rw [gi_wi, if_neg (by omega), hr2, if_neg (by omega), FSa h47 _ _ (by decide) (by decide)]
