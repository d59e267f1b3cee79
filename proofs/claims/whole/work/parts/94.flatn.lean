/-! the traits of a unit laid over it; all units -/
def QF (n u : Nat) (c r : zM) : Prop := (∀ i, i < 26 * u → RC n c r i) ∧ ∀ i, 26 * u ≤ i → i < 312 → gi c 11 0 i = 0
def QU (n u : Nat) (c r : zM) : Prop := (∀ i, i < 26 * u → RC n c r i) ∧ (∀ m, m < 26 → (bodyR (rR r 38 0 u) m → gi c 11 0 (26 * u + m) = nI 1 ∧ gi c 12 0 (26 * u + m) = nI (26 * u + m)) ∧ (¬ bodyR (rR r 38 0 u) m → RC n c r (26 * u + m))) ∧ ∀ i, 26 * u + 26 ≤ i → i < 312 → gi c 11 0 i = 0
theorem QU_step {n u t : Nat} {c c' r r' : zM} (h : QU n u c r) (ht : t < 26) (hn : ¬ bodyR (rR r 38 0 u) t) (hR : RC n c' r' (26 * u + t)) (e : EQc (26 * u + t) c c' r r') (g : FS [44] r r') : QU n u c' r' := by
  have e38 := rR_38 (r := r) (r' := r') (fun s => FSa g 0 s (by decide) (by decide)) u
  refine ⟨fun i hi => RC_eq (h.1 i hi) (by omega) e g, fun m hm => ⟨fun q => ?_, fun q => ?_⟩, fun i h1 h2 => ?_⟩
  · rw [e38] at q
    have hne : m ≠ t := fun z => hn (by rw [← z]; exact q)
    rw [(e.1 (26 * u + m) (by omega)).1, (e.1 (26 * u + m) (by omega)).2.1]
    exact (h.2.1 m hm).1 q
  · rw [e38] at q
    by_cases z : m = t
    · rw [z]; exact hR
    · exact RC_eq ((h.2.1 m hm).2 q) (by omega) e g
  · rw [(e.1 i (by omega)).1]; exact h.2.2 i h1 h2
theorem QU_skip {n u t : Nat} {c r r' : zM} (h : QU n u c r) (ht : t < 26) (hn : bodyR (rR r 38 0 u) t) (e : ∀ s, s < 5 * (26 * u + t) ∨ 5 * (26 * u + t) + 5 ≤ s → gi r' 44 0 s = gi r 44 0 s) (g : FS [44] r r') : QU n u c r' := by
  have f38 : ∀ s, gi r' 38 0 s = gi r 38 0 s := fun s => FSa g 0 s (by decide) (by decide)
  have e38 := rR_38 (r := r) (r' := r') f38 u
  refine ⟨fun i hi => RC_cg (h.1 i hi) rfl rfl rfl (fun s h1 h2 => e s (by omega)) f38, fun m hm => ⟨fun q => ?_, fun q => ?_⟩, h.2.2⟩
  · rw [e38] at q
    exact (h.2.1 m hm).1 q
  · rw [e38] at q
    have hne : m ≠ t := fun z => q (by rw [z]; exact hn)
    exact RC_cg ((h.2.1 m hm).2 q) rfl rfl rfl (fun s h1 h2 => e s (by omega)) f38
theorem WLI.bec {w d n x p k m : Nat} {c r : zM} (h : WLI w d n c r) (hx : x < n) (hp : gi r 38 0 (113 * x + 7) = nI p) (p4 : p ≤ 4) (hk : k < p) (hm : m < 26) : gi c 34 (12 * w + x) (26 * k + m) = -1 ∨ zin (gi c 34 (12 * w + x) (26 * k + m)) 26 = true := by
  obtain ⟨u1, u2, u3, u4, u5, u6, u7⟩ := (h.US hx).2.2 k (by rw [rR_0 (by omega), hp, zn_n (by omega)]; exact hk)
  have := u7 m hm
  rw [uC_lt (by omega)] at this
  rw [this]
  unfold becR
  cases hz : zfd (fun i => rR r 38 0 x (10 + 14 * k + 2 * i)) (nI m) (zn (rR r 38 0 x (9 + 14 * k))) with
  | none => exact Or.inr (zin_n hm (by omega))
  | some i => exact (u5 i (zfd_some hz).1).2.1
theorem flat_use {w d n u p k : Nat} {c r : zM} (hW : WLI w d n c r) (hu : u < n) (hp : gi r 38 0 (113 * u + 7) = nI p) (p4 : p ≤ 4) (hk : k < p) (hQ : QU n u c r) : ok2 (fX0_layTrait (12 * w + u) (nI u) (nI k) c) (zloop (fX10_laysFlat_L92 (nI u) (nI k)) zF (0, r)) (fun c' o => ∃ r', o = Sum.inl r' ∧ QU n u c' r' ∧ FS [11, 12, 13] c c' ∧ FS [44] r r') := by
  have h12 := hW.n12
  obtain ⟨p', p4', pc, pr, pk⟩ := hW.use hu
  have : p' = p := (nIeq (by omega) (by omega)).mp (pr.symm.trans hp)
  subst this
  obtain ⟨k1, ⟨q, q1, q2, q3⟩, ⟨e, e6, ec, ere⟩, pb⟩ := pk k hk
  unfold fX0_layTrait
  rw [pX5_itemAt pc p4, Option.bind_some, if_pos (zin_n hk (by omega)), zn_n (by omega), k1, q2]
  have main : ok2 (zloop (fX0_layTrait_L13 (12 * w + u) (nI u) (nI k) (nI q)) zF (0, c)) (zloop (fX10_laysFlat_L92 (nI u) (nI k)) zF (0, r)) (fun o o' => ∃ c' r', o = Sum.inl c' ∧ o' = Sum.inl r' ∧ QU n u c' r' ∧ FS [11, 12, 13] c c' ∧ FS [44] r r') := by
    refine ok2_for (fun i s t => s.1 = nI i ∧ t.1 = nI i ∧ QU n u s.2 t.2 ∧ FS [11, 12, 13] c s.2 ∧ FS [44] r t.2) (a := 0) (b := 26) (by omega) (by unfold zF; omega) (by unfold zF; omega) ⟨rfl, rfl, hQ, FS_refl c, FS_refl r⟩ (fun i s t _ hi hI => ?_) (fun s t hI => ?_)
    · obtain ⟨s1, cc⟩ := s
      obtain ⟨t1, rr⟩ := t
      obtain ⟨h1, h2, h3, h4, h5⟩ := hI
      dsimp only at h1 h2 h3 h4 h5
      subst h1; subst h2
      unfold fX0_layTrait_L13 fX10_laysFlat_L92
      dsimp only
      have f38 : ∀ s, gi rr 38 0 s = gi r 38 0 s := fun s => FSa h5 0 s (by decide) (by decide)
      have e38 := rR_38 (r := r) (r' := rr) f38 u
      have ef : (fun s => gi rr 38 0 (113 * u + s)) = fun s => gi r 38 0 (113 * u + s) := funext (fun s => f38 _)
      have ere' : gi rr 38 0 (113 * u + (9 + 14 * k)) = nI e := by rw [f38]; exact ere
      rw [l26, pX7_letterThere (by omega) hi, Option.bind_some, FSa h4 _ _ (by decide) (by decide), qBecomesIn (by omega) (by omega) ere' e6, Option.bind_some, ef, ← pb i hi, nI_1]
      refine ok2_fl (fun q => by have := (nIle (by omega) (by omega)).mp q; omega) (ok2_fr' (fun q => by have := (nIle (by omega) (by omega)).mp q; omega) ?_)
      rcases hW.bec hu hp p4 hk hi with z | z
      · rw [z, if_pos rfl, if_pos rfl]
        exact ok2_some (Or.inl ⟨_, _, rfl, rfl, rfl, rfl, h3, h4, h5⟩)
      · obtain ⟨t, ht, et, ht3⟩ := zin_e z
        rw [et, if_neg (nIm1 (by omega)), if_neg (nIm1 (by omega)), pX7_hasBody ht, Option.bind_some, FSa h4 _ _ (by decide) (by decide), qFlatAt, Option.bind_some, qUseAt, Option.bind_some, zo _ (by omega) (by omega), zn_n (by omega), f38, q2, qFlatAt, Option.bind_some, pk_mul, nI_add, pk_mul, nI_add, Nat.mul_comm q 26, Nat.mul_comm u 26]
        by_cases hb : gi c 32 (12 * w + u) t ≤ 0
        · have hnb : ¬ bodyR (rR rr 38 0 u) t := by rw [e38, hW.bod hu ht]; exact fun y => y hb
          rw [if_pos hb, if_pos (show (0 : Int32) = 0 from rfl)]
          refine ok2_bind (layO (n := n) (h3.1 (26 * q + i) (by omega)) ((h3.2.1 t ht).2 hnb) (by omega) (by omega) (by omega) h12) (fun c1 r1 g1 => ok2_some (Or.inl ⟨_, _, rfl, rfl, rfl, rfl, ?_, FS_tr h4 g1.2.1, FS_tr h5 g1.2.2⟩))
          exact QU_step h3 ht hnb g1.1.1 g1.1.2 g1.2.2
        · have hyb : bodyR (rR rr 38 0 u) t := by rw [e38, hW.bod hu ht]; exact hb
          rw [if_neg hb, if_neg n10]
          refine ok2_r (givesA (by omega) (by omega)) (fun r1 g1 => ok2_some (Or.inl ⟨_, _, rfl, rfl, rfl, rfl, ?_, h4, FS_tr h5 g1.2⟩))
          exact QU_skip h3 ht hyb g1.1 g1.2
    · obtain ⟨s1, cc⟩ := s
      obtain ⟨t1, rr⟩ := t
      obtain ⟨h1, h2, h3, h4, h5⟩ := hI
      dsimp only at h1 h2 h3 h4 h5
      subst h1; subst h2
      unfold fX0_layTrait_L13 fX10_laysFlat_L92
      dsimp only
      rw [l26, if_pos (Int32.le_refl _), if_pos (Int32.le_refl _)]
      exact ok2_some ⟨_, _, rfl, rfl, cc, rr, rfl, rfl, h3, h4, h5⟩
  obtain ⟨o, o', e1, e2, c', r', rfl, rfl, h⟩ := main
  rw [e1, e2]
  exact ⟨c', _, rfl, rfl, r', rfl, h⟩
theorem qFlat_L151 {w d n u : Nat} {c r : zM} (hW : WLI w d n c r) (hu : u < n) : ok (zloop (fX10_laysFlat_L151 (nI u)) zF (0, r)) (fun o' => ∃ r', o' = Sum.inl r' ∧ (∀ m, m < 26 → bodyR (rR r 38 0 u) m → gi r' 44 0 (5 * (26 * u + m)) = nI 1 ∧ gi r' 44 0 (5 * (26 * u + m) + 1) = nI u ∧ gi r' 44 0 (5 * (26 * u + m) + 2) = nI m) ∧ (∀ s, (∀ m, m < 26 → bodyR (rR r 38 0 u) m → s < 5 * (26 * u + m) ∨ 5 * (26 * u + m) + 5 ≤ s) → gi r' 44 0 s = gi r 44 0 s) ∧ FS [44] r r') := by
  have h12 := hW.n12
  obtain ⟨o, o8, oc, or', om, ol⟩ := hW.own hu
  have e64 : rR r 38 0 u 64 = nI o := by rw [rR_0 (by omega)]; exact or'
  have ez : ∀ m, zfd (fun k => rR r 38 0 u (65 + 6 * k)) (nI m) o = zfd (fun k => gi r 38 0 (113 * u + (65 + 6 * k))) (nI m) o := fun m => zfd_cg (fun k hk => rR_0 (by omega))
  have hb : ∀ m, bodyR (rR r 38 0 u) m ↔ ∃ k, zfd (fun k => gi r 38 0 (113 * u + (65 + 6 * k))) (nI m) o = some k ∧ 0 < zn (gi r 38 0 (113 * u + (66 + 6 * k))) := fun m => by
    unfold bodyR
    rw [e64, zn_n (by omega), ez]
    constructor
    · rintro ⟨k, a1, a2⟩
      have := (zfd_some a1).1
      rw [rR_0 (by omega)] at a2
      exact ⟨k, a1, a2⟩
    · rintro ⟨k, a1, a2⟩
      have := (zfd_some a1).1
      exact ⟨k, a1, by rw [rR_0 (by omega)]; exact a2⟩
  refine ok_for (fun i s => s.1 = nI i ∧ (∀ m, m < 26 → ∀ k, k < i → gi r 38 0 (113 * u + (65 + 6 * k)) = nI m → 0 < zn (gi r 38 0 (113 * u + (66 + 6 * k))) → gi s.2 44 0 (5 * (26 * u + m)) = nI 1 ∧ gi s.2 44 0 (5 * (26 * u + m) + 1) = nI u ∧ gi s.2 44 0 (5 * (26 * u + m) + 2) = nI m) ∧ (∀ s', (∀ m, m < 26 → bodyR (rR r 38 0 u) m → s' < 5 * (26 * u + m) ∨ 5 * (26 * u + m) + 5 ≤ s') → gi s.2 44 0 s' = gi r 44 0 s') ∧ FS [44] r s.2) (a := 0) (b := o) (by omega) (by unfold zF; omega) ⟨rfl, fun m _ k hk => by omega, fun s _ => rfl, FS_refl r⟩ (fun i s _ hi hI => ?_) (fun s hI => ?_)
  · obtain ⟨s1, mm⟩ := s
    obtain ⟨h1, h2, h3, h4⟩ := hI
    dsimp only at h1 h2 h3 h4
    subst h1
    have e38 : ∀ s, gi mm 38 0 s = gi r 38 0 s := fun s => FSa h4 0 s (by decide) (by decide)
    obtain ⟨l, l1', l2', l3'⟩ := zin_e (ol i hi)
    have hz : zfd (fun k => gi r 38 0 (113 * u + (65 + 6 * k))) (nI l) o = some i := zfd_is hi l2' (fun k hk q => hW.ownd hu or' o8 hk hi (q.trans l2'.symm))
    obtain ⟨cn, cn4, e32, e66, -⟩ := (om l l1').2 i hz
    unfold fX10_laysFlat_L151
    dsimp only
    rw [qOwns (by omega), Option.bind_some, e38, or']
    refine ok_f (fun q => by have := (nIle (by omega) (by omega)).mp q; omega) ?_
    have el : ∀ x y : Nat, nI x + nI y = nI (x + y) := fun x y => nI_add _ _
    rw [qOwnAt, Option.bind_some, nI_1, zo _ (by omega) (by omega), zn_n (by omega), e38, show 113 * u + (65 + 6 * i) + 1 = 113 * u + (66 + 6 * i) by omega, e66, l0, nI_1]
    by_cases q : cn = 0
    · refine ok_t ((nIle (by omega) (by omega)).mpr (by omega)) (ok_some (Or.inl ⟨_, rfl, rfl, fun m hm k hk k1 k2 => ?_, h3, h4⟩))
      by_cases z : k = i
      · subst z
        rw [e66, zn_n (by omega)] at k2
        omega
      · exact h2 m hm k (by omega) k1 k2
    · refine ok_f (fun z => by have := (nIle (by omega) (by omega)).mp z; omega) ?_
      rw [zo _ (by omega) (by omega), zn_n (by omega), e38, l2', qFlatAt, Option.bind_some, zo _ (by omega) (by omega), zo _ (by omega) (by omega), zn_n (by omega)]
      have w1 : gi (wi mm 44 0 (5 * (26 * u + l)) 1) 38 0 (113 * u + (65 + 6 * i)) = nI l := by rw [gi_wi, if_neg (by omega), e38]; exact l2'
      rw [w1, qFlatAt, Option.bind_some, nI_1, zo _ (by omega) (by omega), zo _ (by omega) (by omega), zn_n (by omega)]
      have w2 : gi (wi (wi mm 44 0 (5 * (26 * u + l)) 1) 44 0 (5 * (26 * u + l) + 1) (nI u)) 38 0 (113 * u + (65 + 6 * i)) = nI l := by rw [gi_wi, if_neg (by omega)]; exact w1
      rw [w2, qFlatAt, Option.bind_some, l2, nI_add, zo _ (by omega) (by omega), zo _ (by omega) (by omega), zn_n (by omega)]
      refine ok_some (Or.inl ⟨_, rfl, rfl, fun m hm k hk k1 k2 => ?_, fun s' hs' => ?_, FS_wa (by decide) (by decide) (FS_wa (by decide) (by decide) (FS_wa (by decide) (by decide) h4))⟩)
      · dsimp only
        by_cases z : m = l
        · subst z
          refine ⟨?_, ?_, ?_⟩
          · rw [gi_wi, if_neg (by omega), gi_wi, if_neg (by omega), gi_wi, if_pos ⟨rfl, rfl, rfl⟩]; rfl
          · rw [gi_wi, if_neg (by omega), gi_wi, if_pos ⟨rfl, rfl, rfl⟩]
          · rw [gi_wi, if_pos ⟨rfl, rfl, rfl⟩]
        · have hk' : k < i := by
            by_cases y : k = i
            · subst y
              exact absurd ((nIeq (by omega) (by omega)).mp (l2'.symm.trans k1)) (fun x => z x.symm)
            · omega
          obtain ⟨a1, a2, a3⟩ := h2 m hm k hk' k1 k2
          refine ⟨?_, ?_, ?_⟩
          · rw [gi_wi, if_neg (by omega), gi_wi, if_neg (by omega), gi_wi, if_neg (by omega)]; exact a1
          · rw [gi_wi, if_neg (by omega), gi_wi, if_neg (by omega), gi_wi, if_neg (by omega)]; exact a2
          · rw [gi_wi, if_neg (by omega), gi_wi, if_neg (by omega), gi_wi, if_neg (by omega)]; exact a3
      · dsimp only
        have := hs' l l1' ((hb l).mpr ⟨i, hz, by rw [e66, zn_n (by omega)]; omega⟩)
        rw [gi_wi, if_neg (by omega), gi_wi, if_neg (by omega), gi_wi, if_neg (by omega)]; exact h3 s' hs'
  · obtain ⟨s1, mm⟩ := s
    obtain ⟨h1, h2, h3, h4⟩ := hI
    dsimp only at h1 h2 h3 h4
    subst h1
    unfold fX10_laysFlat_L151
    dsimp only
    rw [qOwns (by omega), Option.bind_some, FSa h4 0 _ (by decide) (by decide), or']
    refine ok_t (Int32.le_refl _) (ok_some ⟨_, rfl, mm, rfl, fun m hm hB => ?_, h3, h4⟩)
    obtain ⟨k, k1, k2⟩ := (hb m).mp hB
    obtain ⟨j1, j2, -⟩ := zfd_some k1
    exact h2 m hm k j1 j2 k2
theorem flat_unit {w d n u : Nat} {c r : zM} (hW : WLI w d n c r) (hu : u < n) (hQ : QF n u c r) : ok2 (fX0_layAll_L10 w (nI u, c)) (fX10_laysFlat (nI u) r) (fun o r' => ∃ c', o = Sum.inl (nI (u + 1), c') ∧ QF n (u + 1) c' r' ∧ FS [11, 12, 13] c c' ∧ FS [44] r r') := by
  have h12 := hW.n12
  obtain ⟨p, p4, pc, pr, -⟩ := hW.use hu
  obtain ⟨o, o8, oc, or', om, ol⟩ := hW.own hu
  unfold fX0_layAll_L10 fX10_laysFlat
  dsimp only
  rw [hW.2.2.2.2.2.1, zo _ (by omega) (by omega), zn_n (by omega), nI_1]
  refine ok2_fl (fun q => by have := (nIle (by omega) (by omega)).mp q; omega) ?_
  refine ok2_l (pX0_layOwn (by omega)) (fun c1 hc1 => ?_)
  obtain ⟨⟨c11, c12⟩, cf1⟩ := hc1
  refine ok2_r (qFlat_L2 (by omega)) (fun o1 ho1 => ?_)
  obtain ⟨r1, rfl, r1a, r1b, rf1⟩ := ho1
  have hW1 : WLI w d n c1 r1 := WLI_fs hW cf1 (by decide) rf1 (by decide)
  have or1 : gi r1 38 0 (113 * u + 64) = nI o := by rw [FSa rf1 0 _ (by decide) (by decide)]; exact or'
  show ok2 _ ((zloop (fX10_laysFlat_L27 (nI u)) zF (0, r1)).bind _) _
  refine ok2_r (qFlat_L27 hW1 hu or1 o8 r1a) (fun o2 ho2 => ?_)
  obtain ⟨r2, rfl, r2a, r2b, rf2⟩ := ho2
  have hW2 : WLI w d n c1 r2 := WLI_fs hW1 (FS_refl (ks := []) c1) (by decide) rf2 (by decide)
  have f38 : ∀ s, gi r2 38 0 s = gi r 38 0 s := fun s => (FSa rf2 0 s (by decide) (by decide)).trans (FSa rf1 0 s (by decide) (by decide))
  have e38 := rR_38 (r := r) (r' := r2) f38 u
  have hQ2 : QU n u c1 r2 := by
    refine ⟨fun i hi => ?_, fun m hm => ⟨fun q => ?_, fun q => ?_⟩, fun i h1 h2 => ?_⟩
    · refine RC_cg (hQ.1 i hi) ?_ ?_ ?_ (fun s h1 h2 => ?_) f38
      · rw [c11, if_neg (by omega)]
      · rw [c12, if_neg (by omega)]
      · exact FSa cf1 0 i (by decide) (by decide)
      · rw [r2b s (by omega), r1b s (by omega)]
    · rw [e38, hW.bod hu hm] at q
      have yy : 26 * u ≤ 26 * u + m ∧ 26 * u + m < 26 * u + 26 := by omega
      rw [c11, c12, if_pos yy, if_pos yy, show 26 * u + m - 26 * u = m by omega, if_neg q, if_neg q]
      exact ⟨rfl, rfl⟩
    · rw [e38, hW.bod hu hm] at q
      have q' : gi c 32 (12 * w + u) m ≤ 0 := Decidable.of_not_not q
      have k11 : gi c1 11 0 (26 * u + m) = if gi c 32 (12 * w + u) m = 0 then 2 else 0 := by
        rw [c11, if_pos (by omega), show 26 * u + m - 26 * u = m by omega, if_pos q', hQ.2 _ (by omega) (by omega)]
      have k44 : gi r2 44 0 (5 * (26 * u + m)) = if gi c 32 (12 * w + u) m = 0 then 2 else 0 := by
        rw [r2a m hm]
        unfold req0
        have ez : zfd (fun k => gi r1 38 0 (113 * u + (65 + 6 * k))) (nI m) o = zfd (fun k => gi r 38 0 (113 * u + (65 + 6 * k))) (nI m) o := zfd_cg (fun k hk => FSa rf1 0 _ (by decide) (by decide))
        rw [ez]
        cases hz : zfd (fun k => gi r 38 0 (113 * u + (65 + 6 * k))) (nI m) o with
        | none => rw [(om m hm).1 hz]; rfl
        | some j =>
          obtain ⟨cn, cn4, e32, e66, -⟩ := (om m hm).2 j hz
          show (if gi r1 38 0 (113 * u + (66 + 6 * j)) = 0 then (2 : Int32) else 0) = _
          rw [FSa rf1 0 _ (by decide) (by decide), e66, e32]
      by_cases z : gi c 32 (12 * w + u) m = 0
      · rw [if_pos z] at k11 k44
        exact ⟨2, by omega, k11, k44, fun y => by omega, fun y => by omega⟩
      · rw [if_neg z] at k11 k44
        exact ⟨0, by omega, k11, k44, fun y => by omega, fun y => by omega⟩
    · rw [c11, if_neg (by omega)]; exact hQ.2 i (by omega) h2
  have pr2 : gi r2 38 0 (113 * u + 7) = nI p := by rw [f38]; exact pr
  have pc1 : gi c1 5 (2 * (12 * w + u) + 1) 1 = nI p := by rw [FSa cf1 _ _ (by decide) (by decide)]; exact pc
  show ok2 _ ((zloop (fX10_laysFlat_L81 (nI u)) zF (0, r2)).bind _) _
  refine ok2_bind (P := fun o o' => ∃ c' r', o = Sum.inl c' ∧ o' = Sum.inl r' ∧ QU n u c' r' ∧ FS [11, 12, 13] c1 c' ∧ FS [44] r2 r') ?_ (fun o3 o4 ho => ?_)
  · refine ok2_for (fun i s t => s.1 = nI i ∧ t.1 = nI i ∧ QU n u s.2 t.2 ∧ FS [11, 12, 13] c1 s.2 ∧ FS [44] r2 t.2) (a := 0) (b := p) (by omega) (by unfold zF; omega) (by unfold zF; omega) ⟨rfl, rfl, hQ2, FS_refl c1, FS_refl r2⟩ (fun i s t _ hi hI => ?_) (fun s t hI => ?_)
    · obtain ⟨s1, cc⟩ := s
      obtain ⟨t1, rr⟩ := t
      obtain ⟨h1, h2, h3, h4, h5⟩ := hI
      dsimp only at h1 h2 h3 h4 h5
      subst h1; subst h2
      unfold fX0_layAll_L31 fX10_laysFlat_L81
      dsimp only
      have hW3 : WLI w d n cc rr := WLI_fs hW2 h4 (by decide) h5 (by decide)
      have pr3 : gi rr 38 0 (113 * u + 7) = nI p := by rw [FSa h5 0 _ (by decide) (by decide)]; exact pr2
      rw [zo _ (by omega) (by omega), zo _ (by omega) (by omega), zn_n (by omega), FSa h4 _ _ (by decide) (by decide), pc1, qUses (by omega), Option.bind_some, pr3, nI_1]
      refine ok2_fl (fun q => by have := (nIle (by omega) (by omega)).mp q; omega) (ok2_fr' (fun q => by have := (nIle (by omega) (by omega)).mp q; omega) ?_)
      refine ok2_bind (flat_use hW3 hu pr3 p4 hi h3) (fun c' o5 ho5 => ?_)
      obtain ⟨r', rfl, g1, g2, g3⟩ := ho5
      exact ok2_some (Or.inl ⟨_, _, rfl, rfl, rfl, rfl, g1, FS_tr h4 g2, FS_tr h5 g3⟩)
    · obtain ⟨s1, cc⟩ := s
      obtain ⟨t1, rr⟩ := t
      obtain ⟨h1, h2, h3, h4, h5⟩ := hI
      dsimp only at h1 h2 h3 h4 h5
      subst h1; subst h2
      unfold fX0_layAll_L31 fX10_laysFlat_L81
      dsimp only
      have pr3 : gi rr 38 0 (113 * u + 7) = nI p := by rw [FSa h5 0 _ (by decide) (by decide)]; exact pr2
      rw [zo _ (by omega) (by omega), zn_n (by omega), FSa h4 _ _ (by decide) (by decide), pc1, qUses (by omega), Option.bind_some, pr3, if_pos (Int32.le_refl _), if_pos (Int32.le_refl _)]
      exact ok2_some ⟨_, _, rfl, rfl, cc, rr, rfl, rfl, h3, h4, h5⟩
  · obtain ⟨c3, r3, rfl, rfl, g1, g2, g3⟩ := ho
    have hW3 : WLI w d n c3 r3 := WLI_fs hW2 g2 (by decide) g3 (by decide)
    show ok2 (some (Sum.inl (nI (u + 1), c3))) ((zloop (fX10_laysFlat_L151 (nI u)) zF (0, r3)).bind _) _
    refine ok2_r (qFlat_L151 hW3 hu) (fun o5 ho5 => ?_)
    obtain ⟨r4, rfl, k1, k2, k3⟩ := ho5
    refine ok2_some ⟨c3, rfl, ⟨fun i hi => ?_, fun i h1 h2 => g1.2.2 i (by omega) h2⟩, FS_tr (FS_mono (zss (by decide)) cf1) g2, FS_tr rf1 (FS_tr rf2 (FS_tr g3 k3))⟩
    have f4 : ∀ s, gi r4 38 0 s = gi r3 38 0 s := fun s => FSa k3 0 s (by decide) (by decide)
    by_cases z : i < 26 * u
    · exact RC_cg (g1.1 i z) rfl rfl rfl (fun s h1 h2 => k2 s (fun m hm _ => by omega)) f4
    · have hm : i - 26 * u < 26 := by omega
      have ei : i = 26 * u + (i - 26 * u) := by omega
      generalize i - 26 * u = m at hm ei
      subst ei
      by_cases hb : bodyR (rR r3 38 0 u) m
      · obtain ⟨a1, a2, a3⟩ := k1 m hm hb
        obtain ⟨b1, b2⟩ := (g1.2.1 m hm).1 hb
        exact ⟨1, by omega, b1, a1, fun _ => ⟨u, m, hu, hm, b2, a2, a3, by rw [rR_38 f4]; exact hb⟩, fun y => by omega⟩
      · refine RC_cg ((g1.2.1 m hm).2 hb) rfl rfl rfl (fun s h1 h2 => k2 s (fun m' hm' hb' => ?_)) f4
        have : m' ≠ m := fun y => hb (by rw [← y]; exact hb')
        omega
