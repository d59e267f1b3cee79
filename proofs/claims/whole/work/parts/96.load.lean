/-! lines: the rows are loaded, on both sides -/
theorem zcin_n {a b n n0 n1 : Nat} (h1 : a + n ≤ n0) (h2 : b + n ≤ n1) (h3 : n0 < 10000) (h4 : n1 < 10000) : zcin (nI a) (nI b) (nI n) n0 n1 = true := by
  unfold zcin
  rw [nI_clamp (by omega), nI_clamp (by omega), nI_clamp (by omega)]
  simp [nI_pos (n := a) (by omega), nI_pos (n := b) (by omega), nI_pos (n := n) (by omega), h1, h2]
def RLj (c r : zM) (u : Nat) : Prop := ∃ L K, L ≤ 12 ∧ K ≤ 12 ∧ gi c 18 0 u = nI L ∧ gi r 46 0 u = nI L ∧ (∀ i, i < L → ∃ t, t ≤ u ∧ gi c 17 u i = nI t ∧ gi r 45 0 (12 * u + i) = nI t) ∧ gi c 21 0 u = nI K ∧ gi r 48 0 u = nI K ∧ ∀ i, i < K → gi c 20 u i = gi r 47 0 (12 * u + i)
def Row1 (u k h : Nat) (c r : zM) : Prop := ∃ e, e ≤ 12 ∧ h ≤ e ∧ gi c 26 0 k = nI e ∧ gi r 50 0 k = nI e ∧ gi c 25 0 k = nI h ∧ gi r 51 0 k = nI h ∧ ∀ i, i < e → ∃ t, t < u ∧ gi c 24 k i = nI t ∧ gi r 49 0 (12 * k + i) = nI t
def RWm (u R : Nat) (c r : zM) : Prop := gi c 2 0 9 = nI R ∧ ∀ k, k < R → Row1 u k 0 c r
theorem Row1_cg {u k h : Nat} {c c' r r' : zM} (H : Row1 u k h c r) (h26 : gi c' 26 0 k = gi c 26 0 k) (h25 : gi c' 25 0 k = gi c 25 0 k) (h24 : ∀ i, gi c' 24 k i = gi c 24 k i) (h50 : gi r' 50 0 k = gi r 50 0 k) (h51 : gi r' 51 0 k = gi r 51 0 k) (h49 : ∀ i, i < 12 → gi r' 49 0 (12 * k + i) = gi r 49 0 (12 * k + i)) : Row1 u k h c' r' := by
  obtain ⟨e, e1, e2, e3, e4, e5, e6, e7⟩ := H
  refine ⟨e, e1, e2, by rw [h26]; exact e3, by rw [h50]; exact e4, by rw [h25]; exact e5, by rw [h51]; exact e6, fun i hi => ?_⟩
  rw [h24, h49 i (by omega)]
  exact e7 i hi
theorem qCopy {v1 v2 : Int32} {k q L : Nat} {r : zM} (hk : k < 5) (hq : q < 12) (hL : gi r 46 0 q = nI L) (L12 : L ≤ 12) : ok (zloop (fX10_laysLine_L69 v1 v2 (nI k) (nI q)) zF (0, r)) (fun o => ∃ r', o = Sum.inl r' ∧ (∀ s, gi r' 49 0 s = if 12 * k ≤ s ∧ s < 12 * k + L then gi r 45 0 (12 * q + (s - 12 * k)) else gi r 49 0 s) ∧ FS [49] r r') := by
  refine ok_for (fun i s => s.1 = nI i ∧ (∀ s', gi s.2 49 0 s' = if 12 * k ≤ s' ∧ s' < 12 * k + i then gi r 45 0 (12 * q + (s' - 12 * k)) else gi r 49 0 s') ∧ FS [49] r s.2) (a := 0) (b := L) (by omega) (by unfold zF; omega) ⟨rfl, fun s => by rw [if_neg (by omega)], FS_refl r⟩ (fun i s _ hi hI => ?_) (fun s hI => ?_)
  · obtain ⟨s1, m⟩ := s
    obtain ⟨h1, h2, h3⟩ := hI
    dsimp only at h1 h2 h3
    subst h1
    unfold fX10_laysLine_L69
    dsimp only
    rw [zo _ (by omega) (by omega), zn_n (by omega), FSa h3 0 q (by decide) (by decide), hL, l12, pk_mul, pk_mul, nI_add, nI_add, zo _ (by omega) (by omega), zo _ (by omega) (by omega), zn_n (by omega), zn_n (by omega), nI_1]
    refine ok_f (fun q => by have := (nIle (by omega) (by omega)).mp q; omega) (ok_some (Or.inl ⟨_, rfl, rfl, fun s' => ?_, FS_wa (by decide) (by decide) h3⟩))
    dsimp only
    rw [gi_wi, FSa h3 0 _ (by decide) (by decide)]
    by_cases z : s' = 12 * k + i
    · rw [if_pos ⟨rfl, rfl, z⟩, if_pos (by omega), show 12 * q + (s' - 12 * k) = 12 * q + i by omega]
    · rw [if_neg (fun y => z y.2.2), h2]
      by_cases y : 12 * k ≤ s' ∧ s' < 12 * k + i
      · rw [if_pos y, if_pos (by omega)]
      · rw [if_neg y, if_neg (by omega)]
  · obtain ⟨s1, m⟩ := s
    obtain ⟨h1, h2, h3⟩ := hI
    dsimp only at h1 h2 h3
    subst h1
    unfold fX10_laysLine_L69
    dsimp only
    rw [zo _ (by omega) (by omega), zn_n (by omega), FSa h3 0 q (by decide) (by decide), hL]
    exact ok_t (Int32.le_refl _) (ok_some ⟨_, rfl, m, rfl, h2, h3⟩)
theorem load {w d n u p : Nat} {c r : zM} (hW : WLI w d n c r) (hu : u < n) (hp : gi r 38 0 (113 * u + 2) = nI p) (p4 : p ≤ 4) (hL : ∀ v, v < u → RLj c r v) : ok2 (fX2_loadRows (2 * (12 * w + u)) c) (zloop (fX10_laysLine_L22 (nI u) (nI p)) zF (0, r)) (fun a o => ((a.1 = 0 ∧ ∃ r', o = Sum.inr r' ∧ FS [49, 50, 51] r r') ∨ (a.1 = 1 ∧ ∃ r', o = Sum.inl r' ∧ RWm u (p + 1) a.2 (wi (wi r' 50 0 p (nI p)) 51 0 p 0) ∧ FS [49, 50, 51] r r')) ∧ FS [24, 25, 26, 1209] c a.2) := by
  have h12 := hW.n12
  obtain ⟨p', p4', pc, pr, pk⟩ := hW.par hu
  have : p' = p := (nIeq (by omega) (by omega)).mp (pr.symm.trans hp)
  subst this
  refine ok2_mono (ok2_fr (P := fun a o => ((a.1 = 0 ∧ ∃ r', o = Sum.inr r' ∧ FS [49, 50, 51] r r') ∨ (a.1 = 1 ∧ ∃ r', o = Sum.inl r' ∧ RWm u (p' + 1) a.2 (wi (wi r' 50 0 p' (nI p')) 51 0 p' 0) ∧ FS [49, 50, 51] r r'))) (G := fun _ => True) ?_ (frX2_loadRows (ks := [24, 25, 26, 1209]) (fun k h => h) (FS_refl c)) (fun _ _ => trivial)) (fun a b h => ⟨h.1, h.2.1⟩)
  unfold fX2_loadRows
  rw [pc, nI_1]
  have main : ok2 (zloop (fX2_loadRows_L12 (2 * (12 * w + u))) zF (0, wi c 2 0 9 (nI (p' + 1)))) (zloop (fX10_laysLine_L22 (nI u) (nI p')) zF (0, r)) (fun e e' => (∃ c' r', e = Sum.inr (0, c') ∧ e' = Sum.inr r' ∧ FS [49, 50, 51] r r') ∨ (∃ c' r', e = Sum.inl c' ∧ e' = Sum.inl r' ∧ FS [24, 25, 26, 1209] c c' ∧ FS [49, 50, 51] r r' ∧ gi c' 2 0 9 = nI (p' + 1) ∧ (∀ j, j < p' → Row1 u j 0 c' r') ∧ ∀ j, j < p' → gi r' 49 0 (12 * p' + j) = gi r 38 0 (113 * u + (3 + j)))) := by
    refine ok2_for (fun k s t => s.1 = nI k ∧ t.1 = nI k ∧ FS [24, 25, 26, 1209] c s.2 ∧ FS [49, 50, 51] r t.2 ∧ gi s.2 2 0 9 = nI (p' + 1) ∧ (∀ j, j < k → Row1 u j 0 s.2 t.2) ∧ ∀ j, j < k → gi t.2 49 0 (12 * p' + j) = gi r 38 0 (113 * u + (3 + j))) (a := 0) (b := p') (by omega) (by unfold zF; omega) (by unfold zF; omega) ⟨rfl, rfl, FS_wf (by decide) (by decide) (FS_refl c), FS_refl r, by rw [gi_wi, if_pos ⟨rfl, rfl, rfl⟩], fun j hj => by omega, fun j hj => by omega⟩ (fun k s t _ hk hI => ?_) (fun s t hI => ?_)
    · obtain ⟨s1, cc⟩ := s
      obtain ⟨t1, rr⟩ := t
      obtain ⟨h1, h2, h3, h4, h5, h6, h7⟩ := hI
      dsimp only at h1 h2 h3 h4 h5 h6 h7
      subst h1; subst h2
      obtain ⟨k1, q, q1, q2, q3⟩ := pk k hk
      obtain ⟨L, K, L12, K12, e18, e46, el, -⟩ := hL q q1
      have c30 : gi cc 30 (2 * (12 * w + u)) k = nI q := by rw [FSa h3 _ _ (by decide) (by decide), k1]; exact q2
      have c5 : gi cc 5 (2 * (12 * w + u)) 1 = nI p' := by rw [FSa h3 _ _ (by decide) (by decide)]; exact pc
      have c18 : gi cc 18 0 q = nI L := by rw [FSa h3 _ _ (by decide) (by decide)]; exact e18
      have r38 : gi rr 38 0 (113 * u + (3 + k)) = nI q := by rw [FSa h4 _ _ (by decide) (by decide)]; exact q2
      have r46 : gi rr 46 0 q = nI L := by rw [FSa h4 _ _ (by decide) (by decide)]; exact e46
      unfold fX2_loadRows_L12 fX10_laysLine_L22
      dsimp only
      rw [c5, zn_n (by omega), c30, zo _ (by omega) (by omega), zo _ (by omega) (by omega), zn_n (by omega), c18, qParentOf (by omega) (by omega), Option.bind_some, r38, zo _ (by omega) (by omega)]
      simp (disch := omega) only [zn_n, zn0]
      rw [r46]
      refine ok2_fl (fun z => by have := (nIle (by omega) (by omega)).mp z; omega) (ok2_fr' (fun z => by have := (nIle (by omega) (by omega)).mp z; omega) ?_)
      by_cases hL0 : L = 0
      · rw [hL0, if_pos (show nI 0 = 0 from rfl), if_pos (show nI 0 = 0 from rfl), zo _ (by omega) (by omega)]
        refine ok2_some ?_
        exact Or.inr ⟨_, _, rfl, rfl, Or.inl ⟨cc, rr, rfl, rfl, h4⟩⟩
      · have hL1 : ¬ nI L = 0 := fun z => hL0 ((nIeq (a := L) (b := 0) (by omega) (by omega)).mp z)
        have zc : zcin 0 0 (nI L) 12 12 = true := zcin_n (a := 0) (b := 0) (by omega) (by omega) (by omega) (by omega)
        rw [if_neg hL1, if_neg hL1, zob_t _ zc]
        simp (disch := omega) only [zo]
        have w18 : gi (wi (zcp cc 17 q 0 24 k 0 L) 25 0 k 0) 18 0 q = nI L := by rw [gi_wi, if_neg (by omega), gi_zcp, if_neg (by omega)]; exact c18
        rw [w18, nI_1]
        have r46' : gi (wi (wi rr 50 0 k (nI L)) 51 0 k 0) 46 0 q = nI L := by rw [gi_wi, if_neg (by omega), gi_wi, if_neg (by omega)]; exact r46
        refine ok2_r (qCopy (by omega) (by omega) r46' L12) (fun o ho => ?_)
        obtain ⟨r1, rfl, r1a, rf1⟩ := ho
        rw [l12, pk_mul, nI_add, zn_n (by omega)]
        show ok2 _ (zob (zin (nI (12 * p' + k)) 60) _) _
        rw [zo _ (by omega) (by omega)]
        have rf : FS [49, 50, 51] r (wi r1 49 0 (12 * p' + k) (nI q)) := FS_wa (by decide) (by decide) (FS_tr (FS_wa (by decide) (by decide) (FS_wa (by decide) (by decide) h4)) (FS_mono (zss (by decide)) rf1))
        have x45 : ∀ s, gi (wi (wi rr 50 0 k (nI L)) 51 0 k 0) 45 0 s = gi rr 45 0 s := fun s => by rw [gi_wi, if_neg (by omega), gi_wi, if_neg (by omega)]
        have x49 : ∀ s, gi (wi (wi rr 50 0 k (nI L)) 51 0 k 0) 49 0 s = gi rr 49 0 s := fun s => by rw [gi_wi, if_neg (by omega), gi_wi, if_neg (by omega)]
        have g49 : ∀ s, gi (wi r1 49 0 (12 * p' + k) (nI q)) 49 0 s = if s = 12 * p' + k then nI q else if 12 * k ≤ s ∧ s < 12 * k + L then gi rr 45 0 (12 * q + (s - 12 * k)) else gi rr 49 0 s := fun s => by
          rw [gi_wi]
          by_cases z : s = 12 * p' + k
          · rw [if_pos ⟨rfl, rfl, z⟩, if_pos z]
          · rw [if_neg (fun y => z y.2.2), if_neg z, r1a, x45, x49]
        have g50 : ∀ j, gi (wi r1 49 0 (12 * p' + k) (nI q)) 50 0 j = if j = k then nI L else gi rr 50 0 j := fun j => by
          rw [gi_wi, if_neg (by omega), FSa rf1 0 j (by decide) (by decide), gi_wi, if_neg (by omega), gi_wi]
          simp
        have g51 : ∀ j, gi (wi r1 49 0 (12 * p' + k) (nI q)) 51 0 j = if j = k then 0 else gi rr 51 0 j := fun j => by
          rw [gi_wi, if_neg (by omega), FSa rf1 0 j (by decide) (by decide), gi_wi, gi_wi, if_neg (show ¬ (51 = 50 ∧ 0 = 0 ∧ j = k) by omega)]
          simp
        refine ok2_some (Or.inl ⟨_, _, rfl, rfl, rfl, rfl, FS_wa (by decide) (by decide) (FS_wa (by decide) (by decide) (FS_zcp (by decide) (by decide) h3)), rf, ?_, fun j hj => ?_, fun j hj => ?_⟩)
        · dsimp only
          rw [gi_wi, if_neg (by omega), gi_wi, if_neg (by omega), gi_zcp, if_neg (by omega)]; exact h5
        · dsimp only
          by_cases z : j = k
          · subst z
            refine ⟨L, L12, by omega, ?_, ?_, ?_, ?_, fun i hi => ?_⟩
            · rw [gi_wi, if_pos ⟨rfl, rfl, rfl⟩]
            · rw [g50, if_pos rfl]
            · rw [gi_wi, if_neg (by omega), gi_wi, if_pos ⟨rfl, rfl, rfl⟩]; rfl
            · rw [g51, if_pos rfl]; rfl
            · obtain ⟨t, t1, t2, t3⟩ := el i hi
              refine ⟨t, by omega, ?_, ?_⟩
              · rw [gi_wi, if_neg (by omega), gi_wi, if_neg (by omega), gi_zcp, if_pos ⟨rfl, rfl, by omega, by omega⟩, FSa h3 _ _ (by decide) (by decide), show 0 + (i - 0) = i by omega]; exact t2
              · rw [g49, if_neg (by omega), if_pos (by omega), FSa h4 _ _ (by decide) (by decide), show 12 * j + i - 12 * j = i by omega]; exact t3
          · refine Row1_cg (h6 j (by omega)) ?_ ?_ (fun i => ?_) ?_ ?_ (fun i hi => ?_)
            · rw [gi_wi, if_neg (by omega), gi_wi, if_neg (by omega), gi_zcp, if_neg (by omega)]
            · rw [gi_wi, if_neg (by omega), gi_wi, if_neg (by omega), gi_zcp, if_neg (by omega)]
            · rw [gi_wi, if_neg (by omega), gi_wi, if_neg (by omega), gi_zcp, if_neg (by omega)]
            · rw [g50, if_neg z]
            · rw [g51, if_neg z]
            · rw [g49, if_neg (by omega), if_neg (by omega)]
        · dsimp only
          rw [g49]
          by_cases z : j = k
          · rw [if_pos (by omega), z]; exact q2.symm
          · rw [if_neg (by omega), if_neg (by omega)]; exact h7 j (by omega)
    · obtain ⟨s1, cc⟩ := s
      obtain ⟨t1, rr⟩ := t
      obtain ⟨h1, h2, h3, h4, h5, h6, h7⟩ := hI
      dsimp only at h1 h2 h3 h4 h5 h6 h7
      subst h1; subst h2
      have c5 : gi cc 5 (2 * (12 * w + u)) 1 = nI p' := by rw [FSa h3 _ _ (by decide) (by decide)]; exact pc
      unfold fX2_loadRows_L12 fX10_laysLine_L22
      dsimp only
      rw [c5, if_pos (Int32.le_refl _), if_pos (Int32.le_refl _)]
      exact ok2_some ⟨_, _, rfl, rfl, Or.inr ⟨cc, rr, rfl, rfl, h3, h4, h5, h6, h7⟩⟩
  obtain ⟨e, e', e1, e2, h⟩ := main
  rw [e1, e2]
  rcases h with ⟨c', r', rfl, rfl, h4⟩ | ⟨c', r', rfl, rfl, h3, h4, h5, h6, h7⟩
  · exact ⟨(0, c'), Sum.inr r', rfl, rfl, Or.inl ⟨rfl, r', rfl, h4⟩⟩
  · have c5 : gi c' 5 (2 * (12 * w + u)) 1 = nI p' := by rw [FSa h3 _ _ (by decide) (by decide)]; exact pc
    show ok2 (zob (zin (gi c' 5 (2 * (12 * w + u)) 1) 5) (zob (zcin 0 0 (gi c' 5 (2 * (12 * w + u)) 1) 4 12) _)) (some (Sum.inl r')) _
    rw [c5, zn_n (by omega), zn0]
    have c5a : gi (zcp c' 30 (2 * (12 * w + u)) 0 24 p' 0 p') 5 (2 * (12 * w + u)) 1 = nI p' := by rw [gi_zcp, if_neg (by omega)]; exact c5
    rw [c5a, zn_n (by omega)]
    have c5b : gi (wi (zcp c' 30 (2 * (12 * w + u)) 0 24 p' 0 p') 25 0 p' 0) 5 (2 * (12 * w + u)) 1 = nI p' := by rw [gi_wi, if_neg (by omega)]; exact c5a
    rw [c5b, zn_n (by omega), zo _ (by omega) (by omega), zob_t _ (show zcin 0 0 (nI p') 4 12 = true from zcin_n (a := 0) (b := 0) (by omega) (by omega) (by omega) (by omega)), zo _ (by omega) (by omega), zo _ (by omega) (by omega)]
    refine ok2_some (Or.inr ⟨rfl, r', rfl, ⟨?_, fun k hk => ?_⟩, h4⟩)
    · dsimp only
      rw [gi_wi, if_neg (by omega), gi_wi, if_neg (by omega), gi_zcp, if_neg (by omega)]; exact h5
    · dsimp only
      by_cases z : k = p'
      · subst z
        refine ⟨k, by omega, by omega, ?_, ?_, ?_, ?_, fun i hi => ?_⟩
        · rw [gi_wi, if_pos ⟨rfl, rfl, rfl⟩]
        · rw [gi_wi, if_neg (by omega), gi_wi, if_pos ⟨rfl, rfl, rfl⟩]
        · rw [gi_wi, if_neg (by omega), gi_wi, if_pos ⟨rfl, rfl, rfl⟩]; rfl
        · rw [gi_wi, if_pos ⟨rfl, rfl, rfl⟩]; rfl
        · obtain ⟨k1, q, q1, q2, q3⟩ := pk i hi
          refine ⟨q, q1, ?_, ?_⟩
          · rw [gi_wi, if_neg (by omega), gi_wi, if_neg (by omega), gi_zcp, if_pos ⟨rfl, rfl, by omega, by omega⟩, FSa h3 _ _ (by decide) (by decide), show 0 + (i - 0) = i by omega, k1]; exact q2
          · rw [gi_wi, if_neg (by omega), gi_wi, if_neg (by omega), h7 i hi]; exact q2
      · refine Row1_cg (h6 k (by omega)) ?_ ?_ (fun i => ?_) ?_ ?_ (fun i hi => ?_)
        · rw [gi_wi, if_neg (by omega), gi_wi, if_neg (by omega), gi_zcp, if_neg (by omega)]
        · rw [gi_wi, if_neg (by omega), gi_wi, if_neg (by omega), gi_zcp, if_neg (by omega)]
        · rw [gi_wi, if_neg (by omega), gi_wi, if_neg (by omega), gi_zcp, if_neg (by omega)]
        · rw [gi_wi, if_neg (by omega), gi_wi, if_neg (by omega)]
        · rw [gi_wi, if_neg (by omega), gi_wi, if_neg (by omega)]
        · rw [gi_wi, if_neg (by omega), gi_wi, if_neg (by omega)]
theorem RWm_pure {u R : Nat} {c r : zM} (h : RWm u R c r) (hR : R ≤ 5) (hu : u ≤ 12) : ∃ E H A, PRw u R E H A ∧ CRw R E H A c ∧ RRw R E H A r := by
  have h' : ∀ k, ∃ e : Nat, ∃ A : Nat → Nat, k < R → e ≤ 12 ∧ gi c 26 0 k = nI e ∧ gi r 50 0 k = nI e ∧ gi c 25 0 k = nI 0 ∧ gi r 51 0 k = nI 0 ∧ ∀ i, i < e → A i < u ∧ gi c 24 k i = nI (A i) ∧ gi r 49 0 (12 * k + i) = nI (A i) := fun k => by
    by_cases hk : k < R
    · obtain ⟨e, e1, e2, e3, e4, e5, e6, e7⟩ := h.2 k hk
      refine ⟨e, fun i => zn (gi c 24 k i), fun _ => ⟨e1, e3, e4, e5, e6, fun i hi => ?_⟩⟩
      obtain ⟨t, t1, t2, t3⟩ := e7 i hi
      show zn (gi c 24 k i) < u ∧ gi c 24 k i = nI (zn (gi c 24 k i)) ∧ gi r 49 0 (12 * k + i) = nI (zn (gi c 24 k i))
      rw [t2, zn_n (by omega)]
      exact ⟨t1, rfl, t3⟩
    · exact ⟨0, fun _ => 0, fun q => absurd q hk⟩
  refine ⟨fun k => Classical.choose (h' k), fun _ => 0, fun k => Classical.choose (Classical.choose_spec (h' k)), ⟨hR, hu, fun k hk => ?_⟩, ⟨h.1, fun k hk => ?_⟩, fun k hk => ?_⟩
  · obtain ⟨a1, a2, a3, a4, a5, a6⟩ := Classical.choose_spec (Classical.choose_spec (h' k)) hk
    exact ⟨a1, Nat.zero_le _, fun i hi => (a6 i hi).1⟩
  · obtain ⟨a1, a2, a3, a4, a5, a6⟩ := Classical.choose_spec (Classical.choose_spec (h' k)) hk
    exact ⟨a2, a4, fun i hi => (a6 i hi).2.1⟩
  · obtain ⟨a1, a2, a3, a4, a5, a6⟩ := Classical.choose_spec (Classical.choose_spec (h' k)) hk
    exact ⟨a3, a5, fun i hi => (a6 i hi).2.2⟩
