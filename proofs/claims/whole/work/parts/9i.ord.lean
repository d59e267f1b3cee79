/-! orders: what must stand ahead, on both sides -/
def BM (c : zM) (kd : Nat) (T : Nat → Nat) : Prop := ∀ y, y < 12 → T y < 2 ^ 12 ∧ gi c kd 0 y = nI (T y)
def TCl (D : Nat → Nat → Prop) (y v : Nat) : Prop := ∀ R : Nat → Nat → Prop, (∀ a b, D a b → R a b) → (∀ a b c, R a b → R b c → R a c) → R y v
theorem TCl_b {D : Nat → Nat → Prop} {y v : Nat} (h : D y v) : TCl D y v := fun R h1 _ => h1 _ _ h
theorem TCl_t {D : Nat → Nat → Prop} {y z v : Nat} (h : TCl D y z) (h' : TCl D z v) : TCl D y v := fun R h1 h2 => h2 _ _ _ (h R h1 h2) (h' R h1 h2)
theorem TCl_m {D D' : Nat → Nat → Prop} (hD : ∀ a b, D a b → TCl D' a b) {y v : Nat} (h : TCl D y v) : TCl D' y v := h (TCl D') hD (fun a b c h1 h2 => TCl_t h1 h2)
/-- a unit's parents, as numbers -/
def pn (rw : Nat → Nat → Int32) (u : Nat) : Nat := zn (rw u 2)
def pa (rw : Nat → Nat → Int32) (u k : Nat) : Nat := zn (rw u (3 + k))
def D1c (rw : Nat → Nat → Int32) (u K y v : Nat) : Prop := ∃ k, k < K ∧ y = pa rw u k ∧ (v = u ∨ ∃ j, j < k ∧ v = pa rw u j)
def Dcc (rw : Nat → Nat → Int32) (S I y v : Nat) : Prop := ∃ u, u < I ∧ S.testBit u = true ∧ D1c rw u (pn rw u) y v
def D1r (rw : Nat → Nat → Int32) (u K y v : Nat) : Prop := ∃ k, k < K ∧ y = pa rw u k ∧ (v = u ∨ (0 < k ∧ v = pa rw u (k - 1)))
def Drr (rw : Nat → Nat → Int32) (S I y v : Nat) : Prop := ∃ u, u < I ∧ S.testBit u = true ∧ D1r rw u (pn rw u) y v
theorem TCl_cr (rw : Nat → Nat → Int32) (S I y v : Nat) : TCl (Dcc rw S I) y v ↔ TCl (Drr rw S I) y v := by
  constructor
  · refine TCl_m (fun a b h => ?_)
    obtain ⟨u, u1, u2, k, k1, k2, k3⟩ := h
    have step : ∀ k, k < pn rw u → ∀ j, j < k → TCl (Drr rw S I) (pa rw u k) (pa rw u j) := by
      intro k
      induction k with
      | zero => intro _ j hj; omega
      | succ k ih =>
        intro hk j hj
        have b : TCl (Drr rw S I) (pa rw u (k + 1)) (pa rw u k) := TCl_b ⟨u, u1, u2, k + 1, hk, rfl, Or.inr ⟨by omega, rfl⟩⟩
        by_cases e : j = k
        · rw [e]; exact b
        · exact TCl_t b (ih (by omega) j (by omega))
    rcases k3 with q | ⟨j, j1, j2⟩
    · exact TCl_b ⟨u, u1, u2, k, k1, k2, Or.inl q⟩
    · rw [k2, j2]; exact step k k1 j j1
  · refine TCl_m (fun a b h => ?_)
    obtain ⟨u, u1, u2, k, k1, k2, k3⟩ := h
    rcases k3 with q | ⟨q1, q2⟩
    · exact TCl_b ⟨u, u1, u2, k, k1, k2, Or.inl q⟩
    · exact TCl_b ⟨u, u1, u2, k, k1, k2, Or.inr ⟨k - 1, by omega, q2⟩⟩
theorem WLI.pz {w d n u : Nat} {c r : zM} (hW : WLI w d n c r) (hu : u < n) : pn (fun u => rR r 38 0 u) u ≤ 4 ∧ gi c 5 (2 * (12 * w + u)) 1 = nI (pn (fun u => rR r 38 0 u) u) ∧ gi r 38 0 (113 * u + 2) = nI (pn (fun u => rR r 38 0 u) u) ∧ ∀ k, k < pn (fun u => rR r 38 0 u) u → pa (fun u => rR r 38 0 u) u k < u ∧ gi c 30 (2 * (12 * w + u)) k = nI (pa (fun u => rR r 38 0 u) u k) ∧ gi r 38 0 (113 * u + (3 + k)) = nI (pa (fun u => rR r 38 0 u) u k) := by
  have h12 := hW.n12
  obtain ⟨p, p4, pc, pr, pk⟩ := hW.par hu
  have e : pn (fun u => rR r 38 0 u) u = p := by
    unfold pn
    show zn (rR r 38 0 u 2) = p
    rw [rR_0 (by omega), pr, zn_n (by omega)]
  rw [e]
  refine ⟨p4, pc, pr, fun k hk => ?_⟩
  obtain ⟨a1, q, q1, q2, q3⟩ := pk k hk
  have e2 : pa (fun u => rR r 38 0 u) u k = q := by
    unfold pa
    show zn (rR r 38 0 u (3 + k)) = q
    rw [rR_0 (by omega), q2, zn_n (by omega)]
  rw [e2, a1]
  exact ⟨q1, q2, q2⟩
theorem tb12 {T v : Nat} (h : T < 2 ^ 12) (hv : T.testBit v = true) : v < 12 := by
  by_cases q : v < 12
  · exact q
  · have : T.testBit v = false := Nat.testBit_lt_two_pow (Nat.lt_of_lt_of_le h (Nat.pow_le_pow_right (by decide) (by omega)))
    rw [this] at hv
    cases hv
theorem pX3_tellParents {w d n u : Nat} {c r cc : zM} {T : Nat → Nat} (hW : WLI w d n c r) (hu : u < n) (f : FS [28, 1302] c cc) (hT : BM cc 28 T) : ok (fX3_tellParents (nI u) (2 * (12 * w + u)) cc) (fun c' => ∃ T', BM c' 28 T' ∧ (∀ y v, y < 12 → ((T' y).testBit v = true ↔ ((T y).testBit v = true ∨ D1c (fun u => rR r 38 0 u) u (pn (fun u => rR r 38 0 u) u) y v))) ∧ FS [28, 1302] c c' ∧ gi c' 3 0 2 = gi cc 3 0 2) := by
  have h12 := hW.n12
  obtain ⟨p4, pc, pr, pk⟩ := hW.pz hu
  unfold fX3_tellParents
  rw [sh1 (by omega)]
  generalize hp : pn (fun u => rR r 38 0 u) u = p at p4 pc pr pk
  have h : ok (zloop (fX3_tellParents_L7 (2 * (12 * w + u))) zF (nI (2 ^ u), 0, cc)) (fun o => ∃ c', o = Sum.inl c' ∧ ∃ T', BM c' 28 T' ∧ (∀ y v, y < 12 → ((T' y).testBit v = true ↔ ((T y).testBit v = true ∨ D1c (fun u => rR r 38 0 u) u p y v))) ∧ FS [28, 1302] c c' ∧ gi c' 3 0 2 = gi cc 3 0 2) := by
    refine ok_for (fun k s => ∃ B T', s.1 = nI B ∧ B < 2 ^ 12 ∧ (∀ v, B.testBit v = true ↔ (v = u ∨ ∃ j, j < k ∧ v = pa (fun u => rR r 38 0 u) u j)) ∧ s.2.1 = nI k ∧ BM s.2.2 28 T' ∧ (∀ y v, y < 12 → ((T' y).testBit v = true ↔ ((T y).testBit v = true ∨ D1c (fun u => rR r 38 0 u) u k y v))) ∧ FS [28, 1302] c s.2.2 ∧ gi s.2.2 3 0 2 = gi cc 3 0 2) (a := 0) (b := p) (by omega) (by unfold zF; omega) ⟨2 ^ u, T, rfl, p12 (by omega), fun v => ?_, rfl, hT, fun y v _ => ⟨fun q => Or.inl q, fun q => q.elim id (fun ⟨k, hk, _⟩ => by omega)⟩, f, rfl⟩ (fun k s _ hk hI => ?_) (fun s hI => ?_)
    · rw [Nat.testBit_two_pow, decide_eq_true_iff]
      exact ⟨fun q => Or.inl q.symm, fun q => q.elim (fun z => z.symm) (fun ⟨j, hj, _⟩ => by omega)⟩
    · obtain ⟨s1, s2, m⟩ := s
      obtain ⟨B, T', i1, i2, i3, i4, i5, i6, i7, i8⟩ := hI
      dsimp only at i1 i4 i5 i7 i8
      subst i1; subst i4
      obtain ⟨k1, k2, k3⟩ := pk k hk
      have c5 : gi m 5 (2 * (12 * w + u)) 1 = nI p := by rw [FSa i7 _ _ (by decide) (by decide)]; exact pc
      have c30 : gi m 30 (2 * (12 * w + u)) k = nI (pa (fun u => rR r 38 0 u) u k) := by rw [FSa i7 _ _ (by decide) (by decide)]; exact k2
      unfold fX3_tellParents_L7
      dsimp only
      rw [c5, zo _ (by omega) (by omega), zn_n (by omega), c30, zo _ (by omega) (by omega), zo _ (by omega) (by omega), zn_n (by omega), (i5 _ (by omega)).2, fa_or, set1 (by omega), nI_1]
      refine ok_f (fun q => by have := (nIle (by omega) (by omega)).mp q; omega) (ok_some (Or.inl ⟨_, rfl, B ||| 2 ^ pa (fun u => rR r 38 0 u) u k, up T' (pa (fun u => rR r 38 0 u) u k) (T' (pa (fun u => rR r 38 0 u) u k) ||| B), rfl, or_lt i2 (p12 (by omega)), fun v => ?_, rfl, fun y hy => ?_, fun y v hy => ?_, FS_wa (by decide) (by decide) i7, ?_⟩))
      · rw [tb_set, Bool.or_eq_true, i3, decide_eq_true_iff]
        constructor
        · rintro ((q | ⟨j, j1, j2⟩) | q)
          · exact Or.inl q
          · exact Or.inr ⟨j, by omega, j2⟩
          · exact Or.inr ⟨k, by omega, q.symm⟩
        · rintro (q | ⟨j, j1, j2⟩)
          · exact Or.inl (Or.inl q)
          · by_cases e : j = k
            · rw [e] at j2; exact Or.inr j2.symm
            · exact Or.inl (Or.inr ⟨j, by omega, j2⟩)
      · dsimp only
        rw [gi_wi]
        by_cases e : y = pa (fun u => rR r 38 0 u) u k
        · rw [up_e e, if_pos ⟨rfl, rfl, e⟩]
          exact ⟨or_lt (i5 _ (by omega)).1 i2, rfl⟩
        · rw [up_n e, if_neg (fun q => e q.2.2)]
          exact i5 y hy
      · by_cases e : y = pa (fun u => rR r 38 0 u) u k
        · rw [up_e e, Nat.testBit_or, Bool.or_eq_true, i3, ← e, i6 y v hy]
          constructor
          · rintro ((q | ⟨k', q1, q2, q3⟩) | q)
            · exact Or.inl q
            · exact Or.inr ⟨k', by omega, q2, q3⟩
            · exact Or.inr ⟨k, by omega, e, q⟩
          · rintro (q | ⟨k', q1, q2, q3⟩)
            · exact Or.inl (Or.inl q)
            · by_cases ek : k' = k
              · rw [ek] at q3; exact Or.inr q3
              · exact Or.inl (Or.inr ⟨k', by omega, q2, q3⟩)
        · rw [up_n e, i6 y v hy]
          constructor
          · rintro (q | ⟨k', q1, q2, q3⟩)
            · exact Or.inl q
            · exact Or.inr ⟨k', by omega, q2, q3⟩
          · rintro (q | ⟨k', q1, q2, q3⟩)
            · exact Or.inl q
            · by_cases ek : k' = k
              · rw [ek] at q2; exact absurd q2 e
              · exact Or.inr ⟨k', by omega, q2, q3⟩
      · dsimp only
        rw [gi_wi, if_neg (by omega)]; exact i8
    · obtain ⟨s1, s2, m⟩ := s
      obtain ⟨B, T', i1, i2, i3, i4, i5, i6, i7, i8⟩ := hI
      dsimp only at i1 i4 i5 i7 i8
      subst i1; subst i4
      have c5 : gi m 5 (2 * (12 * w + u)) 1 = nI p := by rw [FSa i7 _ _ (by decide) (by decide)]; exact pc
      unfold fX3_tellParents_L7
      dsimp only
      rw [c5]
      exact ok_t (Int32.le_refl _) (ok_some ⟨_, rfl, m, rfl, T', i5, i6, i7, i8⟩)
  obtain ⟨o, e, c', rfl, h⟩ := h
  rw [e]
  exact ok_some h
def wcl (T : Nat → Nat) (m i y : Nat) : Nat := if y < i ∧ (T y).testBit m = true then T y ||| T m else T y
theorem wcl_p {T : Nat → Nat} {m i y : Nat} (h : y < i ∧ (T y).testBit m = true) : wcl T m i y = T y ||| T m := if_pos h
theorem wcl_n {T : Nat → Nat} {m i y : Nat} (h : ¬ (y < i ∧ (T y).testBit m = true)) : wcl T m i y = T y := if_neg h
theorem pX3_close {cc : zM} {T : Nat → Nat} {D : Nat → Nat → Prop} (hT : BM cc 28 T) (hD : ∀ y v, y < 12 → ((T y).testBit v = true ↔ D y v)) (hD12 : ∀ y v, D y v → y < 12 ∧ v < 12) : ok (fX3_closeAhead cc) (fun c' => (∃ T', BM c' 28 T' ∧ ∀ y v, y < 12 → ((T' y).testBit v = true ↔ TCl D y v)) ∧ FS [28] cc c') := by
  refine ok_fr ?_ (frX3_closeAhead (ks := [28]) (fun k h => h) (FS_refl cc))
  unfold fX3_closeAhead
  have h : ok (zloop fX3_closeAhead_L2 zF (0, cc)) (fun o => ∃ c', o = Sum.inl c' ∧ ∃ T', BM c' 28 T' ∧ (∀ y v, y < 12 → (T y).testBit v = true → (T' y).testBit v = true) ∧ (∀ y v, y < 12 → (T' y).testBit v = true → TCl D y v) ∧ ∀ z, z < 12 → ∀ y, y < 12 → (T' y).testBit z = true → ∀ v, (T' z).testBit v = true → (T' y).testBit v = true) := by
    refine ok_for (fun m s => s.1 = nI m ∧ ∃ T', BM s.2 28 T' ∧ (∀ y v, y < 12 → (T y).testBit v = true → (T' y).testBit v = true) ∧ (∀ y v, y < 12 → (T' y).testBit v = true → TCl D y v) ∧ ∀ z, z < m → ∀ y, y < 12 → (T' y).testBit z = true → ∀ v, (T' z).testBit v = true → (T' y).testBit v = true) (a := 0) (b := 12) (by omega) (by unfold zF; omega) ⟨rfl, T, hT, fun y v _ q => q, fun y v hy q => TCl_b ((hD y v hy).mp q), fun z hz => by omega⟩ (fun m s _ hm hI => ?_) (fun s hI => ?_)
    · obtain ⟨s1, cm⟩ := s
      obtain ⟨i1, T', i2, i3, i4, i5⟩ := hI
      dsimp only at i1 i2
      subst i1
      have inner : ok (zloop (fX3_closeAhead_L10 (nI m)) zF (0, cm)) (fun o => ∃ c', o = Sum.inl c' ∧ BM c' 28 (wcl T' m 12)) := by
        refine ok_for (fun i s => s.1 = nI i ∧ BM s.2 28 (wcl T' m i)) (a := 0) (b := 12) (by omega) (by unfold zF; omega) ⟨rfl, fun y hy => by rw [wcl_n (by omega)]; exact i2 y hy⟩ (fun i s _ hi hI2 => ?_) (fun s hI2 => ?_)
        · obtain ⟨t1, cx⟩ := s
          obtain ⟨j1, j2⟩ := hI2
          dsimp only at j1 j2
          subst j1
          have ei : gi cx 28 0 i = nI (T' i) := by have := (j2 i hi).2; rw [wcl_n (by omega)] at this; exact this
          have em : gi cx 28 0 m = nI (T' m) := by
            have := (j2 m hm).2
            by_cases q : m < i ∧ (T' m).testBit m = true
            · rw [wcl_p q, Nat.or_self] at this; exact this
            · rw [wcl_n q] at this; exact this
          have lt := (i2 i hi).1
          unfold fX3_closeAhead_L10
          dsimp only
          rw [l12, zo _ (by omega) (by omega), zn_n (by omega), ei, has_c (Nat.lt_of_lt_of_le lt (by decide)) (by omega), Option.bind_some, nI_1]
          refine ok_f (fun q => by have := (nIle (by omega) (by omega)).mp q; omega) ?_
          by_cases q : (T' i).testBit m = true
          · rw [if_pos q, if_neg n10, zo _ (by omega) (by omega), zo _ (by omega) (by omega), zo _ (by omega) (by omega), zn_n (by omega), em, fa_or]
            refine ok_some (Or.inl ⟨_, rfl, rfl, fun y hy => ?_⟩)
            dsimp only
            rw [gi_wi]
            by_cases e : y = i
            · subst e
              rw [wcl_p ⟨by omega, q⟩, if_pos ⟨rfl, rfl, rfl⟩]
              exact ⟨or_lt lt (i2 m hm).1, rfl⟩
            · rw [if_neg (fun z => e z.2.2)]
              have := j2 y hy
              by_cases z : y < i ∧ (T' y).testBit m = true
              · rw [wcl_p z] at this
                rw [wcl_p ⟨by omega, z.2⟩]; exact this
              · rw [wcl_n z] at this
                rw [wcl_n (fun x => z ⟨by omega, x.2⟩)]; exact this
          · rw [if_neg q, if_pos (show (0 : Int32) = 0 from rfl)]
            refine ok_some (Or.inl ⟨_, rfl, rfl, fun y hy => ?_⟩)
            dsimp only
            have := j2 y hy
            by_cases z : y < i ∧ (T' y).testBit m = true
            · rw [wcl_p z] at this
              rw [wcl_p ⟨by omega, z.2⟩]; exact this
            · rw [wcl_n z] at this
              rw [wcl_n (fun x => z ⟨by
                have : y ≠ i := fun w => q (by rw [← w]; exact x.2)
                omega, x.2⟩)]; exact this
        · obtain ⟨t1, cx⟩ := s
          obtain ⟨j1, j2⟩ := hI2
          dsimp only at j1 j2
          subst j1
          unfold fX3_closeAhead_L10
          dsimp only
          rw [l12]
          exact ok_t (Int32.le_refl _) (ok_some ⟨_, rfl, cx, rfl, j2⟩)
      unfold fX3_closeAhead_L2
      dsimp only
      rw [l12]
      refine ok_f (fun q => by have := (nIle (by omega) (by omega)).mp q; omega) ?_
      obtain ⟨o, eo, c2, rfl, hB⟩ := inner
      rw [eo]
      have tb : ∀ y v, y < 12 → ((wcl T' m 12 y).testBit v = true ↔ ((T' y).testBit v = true ∨ ((T' y).testBit m = true ∧ (T' m).testBit v = true))) := fun y v hy => by
        by_cases z : (T' y).testBit m = true
        · rw [wcl_p ⟨hy, z⟩, Nat.testBit_or, Bool.or_eq_true]
          exact ⟨fun q => q.elim Or.inl (fun x => Or.inr ⟨z, x⟩), fun q => q.elim Or.inl (fun x => Or.inr x.2)⟩
        · rw [wcl_n (fun x => z x.2)]
          exact ⟨fun q => Or.inl q, fun q => q.elim id (fun x => absurd x.1 z)⟩
      refine ok_some (Or.inl ⟨_, rfl, by rw [nI_1], _, hB, fun y v hy q => (tb y v hy).mpr (Or.inl (i3 y v hy q)), fun y v hy q => ?_, fun z hz y hy q v q2 => ?_⟩)
      · rcases (tb y v hy).mp q with x | ⟨x1, x2⟩
        · exact i4 y v hy x
        · exact TCl_t (i4 y m hy x1) (i4 m v hm x2)
      · rw [tb _ _ hy] at q ⊢
        rw [tb _ _ (by omega)] at q2
        by_cases ez : z = m
        · subst ez
          have qq : (T' y).testBit z = true := q.elim id (fun x => x.1)
          have q2' : (T' z).testBit v = true := q2.elim id (fun x => x.2)
          exact Or.inr ⟨qq, q2'⟩
        · have hz' : z < m := by omega
          rcases q with q | ⟨qa, qb⟩
          · rcases q2 with q2 | ⟨qc, qd⟩
            · exact Or.inl (i5 z hz' y hy q v q2)
            · exact Or.inr ⟨i5 z hz' y hy q m qc, qd⟩
          · rcases q2 with q2 | ⟨qc, qd⟩
            · exact Or.inr ⟨qa, i5 z hz' m hm qb v q2⟩
            · exact Or.inr ⟨qa, qd⟩
    · obtain ⟨s1, cm⟩ := s
      obtain ⟨i1, T', i2, i3, i4, i5⟩ := hI
      dsimp only at i1 i2
      subst i1
      unfold fX3_closeAhead_L2
      dsimp only
      rw [l12]
      exact ok_t (Int32.le_refl _) (ok_some ⟨_, rfl, cm, rfl, T', i2, i3, i4, i5⟩)
  obtain ⟨o, e, c', rfl, T', h1, h2, h3, h4⟩ := h
  rw [e]
  refine ok_some ⟨T', h1, fun y v hy => ⟨h3 y v hy, fun q => ?_⟩⟩
  have := q (fun a b => a < 12 ∧ b < 12 ∧ (T' a).testBit b = true) (fun a b hab => ⟨(hD12 a b hab).1, (hD12 a b hab).2, h2 a b (hD12 a b hab).1 ((hD a b (hD12 a b hab).1).mpr hab)⟩) (fun a b c ha hb => ⟨ha.1, hb.2.1, h4 b hb.1 a ha.1 ha.2.2 c hb.2.2⟩)
  exact this.2.2
