/-! one unit laid flat, on both sides -/
theorem qFlatAt {u m : Nat} {mm : zM} : fX10_flatAt (nI u) (nI m) mm = some (nI (5 * (26 * u + m))) := by
  unfold fX10_flatAt
  rw [l26, pk_mul, nI_add, l5, pk_mul]
theorem WLI_fs {w d n : Nat} {c c' r r' : zM} {ks ks' : List Nat} (h : WLI w d n c r) (f : FS ks c c') (hk : ∀ k ∈ [8, 5, 7, 30, 31, 32, 33, 34, 109], k ∉ ks) (f' : FS ks' r r') (hk' : 38 ∉ ks') : WLI w d n c' r' := by
  have hu : ∀ q, uC c' q = uC c q := fun q => uC_fs f (fun k hk2 => hk k (zss (a := [5, 7, 30, 31, 32, 33, 34]) (by decide) k hk2)) q
  obtain ⟨w1, w2, w3, w4, w5, w6, w7, w8⟩ := h
  exact ⟨by rw [FSr f 2 (hk 109 (by decide))]; exact w1, by rw [FSr f 3 (hk 109 (by decide))]; exact w2, w3, w4, w5, by rw [FSa f w 1 (by decide) (hk 8 (by decide))]; exact w6, by rw [FSa f' 0 _ (by decide) hk']; exact w7, RelW_cg w8 (fun u _ => hu _) (fun u _ => rR_cg (fun s _ => FSa f' 0 _ (by decide) hk'))⟩
theorem WLI.bod {w d n x m : Nat} {c r : zM} (h : WLI w d n c r) (hx : x < n) (hm : m < 26) : bodyR (rR r 38 0 x) m ↔ ¬ gi c 32 (12 * w + x) m ≤ 0 := by
  obtain ⟨o, o8, oc, or', om, ol⟩ := h.own hx
  have e64 : rR r 38 0 x 64 = nI o := by rw [rR_0 (by omega)]; exact or'
  have ez : zfd (fun k => rR r 38 0 x (65 + 6 * k)) (nI m) o = zfd (fun k => gi r 38 0 (113 * x + (65 + 6 * k))) (nI m) o := zfd_cg (fun k hk => rR_0 (by omega))
  unfold bodyR
  rw [e64, zn_n (by omega), ez]
  cases hz : zfd (fun k => gi r 38 0 (113 * x + (65 + 6 * k))) (nI m) o with
  | none =>
    rw [(om m hm).1 hz]
    refine ⟨fun ⟨k, q, _⟩ => (by cases q), fun q => absurd (by decide) q⟩
  | some j =>
    obtain ⟨cn, cn4, e32, e66, -⟩ := (om m hm).2 j hz
    have hj := (zfd_some hz).1
    have e66' : rR r 38 0 x (66 + 6 * j) = nI cn := by rw [rR_0 (by omega)]; exact e66
    rw [e32, l0, nIle (by omega) (by omega)]
    constructor
    · rintro ⟨k, q, hq⟩
      cases q
      rw [e66', zn_n (by omega)] at hq
      omega
    · intro q
      exact ⟨j, rfl, by rw [e66', zn_n (by omega)]; omega⟩
theorem WLI.ownd {w d n x i j : Nat} {c r : zM} (h : WLI w d n c r) (hx : x < n) {o : Nat} (ho : gi r 38 0 (113 * x + 64) = nI o) (o8 : o ≤ 8) (hij : i < j) (hj : j < o) : gi r 38 0 (113 * x + (65 + 6 * i)) ≠ gi r 38 0 (113 * x + (65 + 6 * j)) := by
  have h4 := (h.OS hx).2.2.2.1 i j hij (by rw [rR_0 (by omega), ho, zn_n (by omega)]; exact hj)
  rw [rR_0 (by omega), rR_0 (by omega)] at h4
  exact h4
theorem pX0_layOwn {N u : Nat} {c : zM} (hu : u < 12) : ok (fX0_layOwn N (nI u) c) (fun c' => ((∀ j, gi c' 11 0 j = if 26 * u ≤ j ∧ j < 26 * u + 26 then (if gi c 32 N (j - 26 * u) ≤ 0 then (if gi c 32 N (j - 26 * u) = 0 then 2 else gi c 11 0 j) else 1) else gi c 11 0 j) ∧ ∀ j, gi c' 12 0 j = if 26 * u ≤ j ∧ j < 26 * u + 26 then (if gi c 32 N (j - 26 * u) ≤ 0 then gi c 12 0 j else nI j) else gi c 12 0 j) ∧ FS [11, 12] c c') := by
  refine ok_fr ?_ (frX0_layOwn (ks := [11, 12]) (fun k h => h) (FS_refl c))
  unfold fX0_layOwn
  refine ok_bind (P := fun o => ∃ c', o = Sum.inl c' ∧ (∀ j, gi c' 11 0 j = if 26 * u ≤ j ∧ j < 26 * u + 26 then (if gi c 32 N (j - 26 * u) ≤ 0 then (if gi c 32 N (j - 26 * u) = 0 then 2 else gi c 11 0 j) else 1) else gi c 11 0 j) ∧ ∀ j, gi c' 12 0 j = if 26 * u ≤ j ∧ j < 26 * u + 26 then (if gi c 32 N (j - 26 * u) ≤ 0 then gi c 12 0 j else nI j) else gi c 12 0 j) ?_ (fun o ho => ?_)
  · refine ok_for (fun i s => s.1 = nI i ∧ (∀ j, gi s.2 11 0 j = if 26 * u ≤ j ∧ j < 26 * u + i then (if gi c 32 N (j - 26 * u) ≤ 0 then (if gi c 32 N (j - 26 * u) = 0 then 2 else gi c 11 0 j) else 1) else gi c 11 0 j) ∧ (∀ j, gi s.2 12 0 j = if 26 * u ≤ j ∧ j < 26 * u + i then (if gi c 32 N (j - 26 * u) ≤ 0 then gi c 12 0 j else nI j) else gi c 12 0 j) ∧ ∀ m, gi s.2 32 N m = gi c 32 N m) (a := 0) (b := 26) (by omega) (by unfold zF; omega) ⟨rfl, fun j => ?_, fun j => ?_, fun m => rfl⟩ (fun i s _ hi hI => ?_) (fun s hI => ?_)
    · rw [if_neg (by omega)]
    · rw [if_neg (by omega)]
    · obtain ⟨s1, m⟩ := s
      obtain ⟨h1, h2, h3, h4⟩ := hI
      dsimp only at h1 h2 h3 h4
      subst h1
      unfold fX0_layOwn_L2
      dsimp only
      rw [l26, pX7_hasBody hi, pX7_requires hi, pk_mul, nI_add, zo _ (by omega) (by omega), zo _ (by omega) (by omega), zo _ (by omega) (by omega), zn_n (by omega), h4, nI_1, Option.bind_some, Option.bind_some, Nat.mul_comm u 26]
      refine ok_f (fun q => by have := (nIle (by omega) (by omega)).mp q; omega) ?_
      have st : ∀ j, (26 * u ≤ j ∧ j < 26 * u + (i + 1)) ↔ (26 * u ≤ j ∧ j < 26 * u + i) ∨ j = 26 * u + i := fun j => by omega
      by_cases q : gi c 32 N i ≤ 0
      · rw [if_pos q, if_pos (show (0 : Int32) = 0 from rfl)]
        by_cases q2 : gi c 32 N i = 0
        · rw [if_pos q2, if_neg n10]
          refine ok_some (Or.inl ⟨_, rfl, rfl, fun j => ?_, fun j => ?_, fun m' => ?_⟩)
          · dsimp only
            rw [gi_wi, h2]
            by_cases z : j = 26 * u + i
            · rw [if_pos ⟨rfl, rfl, z⟩, if_pos (by omega), show j - 26 * u = i by omega, if_pos q, if_pos q2]
            · rw [if_neg (fun y => z y.2.2)]
              by_cases z2 : 26 * u ≤ j ∧ j < 26 * u + i
              · rw [if_pos z2, if_pos (show 26 * u ≤ j ∧ j < 26 * u + (i + 1) by omega)]
              · rw [if_neg z2, if_neg (by omega)]
          · dsimp only
            rw [gi_wi, if_neg (by omega), h3]
            by_cases z : j = 26 * u + i
            · rw [if_neg (by omega), if_pos (by omega), show j - 26 * u = i by omega, if_pos q]
            · by_cases z2 : 26 * u ≤ j ∧ j < 26 * u + i
              · rw [if_pos z2, if_pos (show 26 * u ≤ j ∧ j < 26 * u + (i + 1) by omega)]
              · rw [if_neg z2, if_neg (by omega)]
          · dsimp only
            rw [gi_wi, if_neg (by omega)]; exact h4 m'
        · rw [if_neg q2, if_pos (show (0 : Int32) = 0 from rfl)]
          refine ok_some (Or.inl ⟨_, rfl, rfl, fun j => ?_, fun j => ?_, h4⟩)
          · dsimp only
            rw [h2]
            by_cases z : j = 26 * u + i
            · rw [if_neg (by omega), if_pos (by omega), show j - 26 * u = i by omega, if_pos q, if_neg q2]
            · by_cases z2 : 26 * u ≤ j ∧ j < 26 * u + i
              · rw [if_pos z2, if_pos (show 26 * u ≤ j ∧ j < 26 * u + (i + 1) by omega)]
              · rw [if_neg z2, if_neg (by omega)]
          · dsimp only
            rw [h3]
            by_cases z : j = 26 * u + i
            · rw [if_neg (by omega), if_pos (by omega), show j - 26 * u = i by omega, if_pos q]
            · by_cases z2 : 26 * u ≤ j ∧ j < 26 * u + i
              · rw [if_pos z2, if_pos (show 26 * u ≤ j ∧ j < 26 * u + (i + 1) by omega)]
              · rw [if_neg z2, if_neg (by omega)]
      · rw [if_neg q, if_neg n10]
        refine ok_some (Or.inl ⟨_, rfl, rfl, fun j => ?_, fun j => ?_, fun m' => ?_⟩)
        · dsimp only
          rw [gi_wi, if_neg (by omega), gi_wi, h2]
          by_cases z : j = 26 * u + i
          · rw [if_pos ⟨rfl, rfl, z⟩, if_pos (by omega), show j - 26 * u = i by omega, if_neg q]
          · rw [if_neg (fun y => z y.2.2)]
            by_cases z2 : 26 * u ≤ j ∧ j < 26 * u + i
            · rw [if_pos z2, if_pos (show 26 * u ≤ j ∧ j < 26 * u + (i + 1) by omega)]
            · rw [if_neg z2, if_neg (by omega)]
        · dsimp only
          rw [gi_wi, gi_wi, if_neg (show ¬ (12 = 11 ∧ 0 = 0 ∧ j = 26 * u + i) by omega), h3]
          by_cases z : j = 26 * u + i
          · rw [if_pos ⟨rfl, rfl, z⟩, if_pos (by omega), show j - 26 * u = i by omega, if_neg q, z]
          · rw [if_neg (fun y => z y.2.2)]
            by_cases z2 : 26 * u ≤ j ∧ j < 26 * u + i
            · rw [if_pos z2, if_pos (show 26 * u ≤ j ∧ j < 26 * u + (i + 1) by omega)]
            · rw [if_neg z2, if_neg (by omega)]
        · dsimp only
          rw [gi_wi, if_neg (by omega), gi_wi, if_neg (by omega)]; exact h4 m'
    · obtain ⟨s1, m⟩ := s
      obtain ⟨h1, h2, h3, h4⟩ := hI
      dsimp only at h1 h2 h3 h4
      subst h1
      unfold fX0_layOwn_L2
      dsimp only
      rw [l26]
      exact ok_t (Int32.le_refl _) (ok_some ⟨_, rfl, m, rfl, h2, h3⟩)
  · obtain ⟨c', rfl, h⟩ := ho
    exact ok_some h
/-- what the reference has of a letter that is told required, or not told -/
def req0 (r : zM) (u o m : Nat) : Int32 := match zfd (fun k => gi r 38 0 (113 * u + (65 + 6 * k))) (nI m) o with
  | none => 0
  | some j => if gi r 38 0 (113 * u + (66 + 6 * j)) = 0 then 2 else 0
theorem qFlat_L2 {u : Nat} {r : zM} (hu : u < 12) : ok (zloop (fX10_laysFlat_L2 (nI u)) zF (0, r)) (fun o => ∃ r', o = Sum.inl r' ∧ (∀ m, m < 26 → gi r' 44 0 (5 * (26 * u + m)) = 0) ∧ (∀ s, s < 130 * u ∨ 130 * u + 130 ≤ s → gi r' 44 0 s = gi r 44 0 s) ∧ FS [44] r r') := by
  refine ok_for (fun i s => s.1 = nI i ∧ (∀ m, m < i → gi s.2 44 0 (5 * (26 * u + m)) = 0) ∧ (∀ s', s' < 130 * u ∨ 130 * u + 130 ≤ s' → gi s.2 44 0 s' = gi r 44 0 s') ∧ FS [44] r s.2) (a := 0) (b := 26) (by omega) (by unfold zF; omega) ⟨rfl, fun m hm => by omega, fun s _ => rfl, FS_refl r⟩ (fun i s _ hi hI => ?_) (fun s hI => ?_)
  · obtain ⟨s1, m⟩ := s
    obtain ⟨h1, h2, h3, h4⟩ := hI
    dsimp only at h1 h2 h3 h4
    subst h1
    unfold fX10_laysFlat_L2
    dsimp only
    rw [l26, qFlatAt, Option.bind_some, zo _ (by omega) (by omega), zn_n (by omega), nI_1]
    refine ok_f (fun q => by have := (nIle (by omega) (by omega)).mp q; omega) (ok_some (Or.inl ⟨_, rfl, rfl, fun m' hm' => ?_, fun s' hs' => ?_, FS_wa (by decide) (by decide) h4⟩))
    · dsimp only
      rw [gi_wi]
      by_cases z : m' = i
      · rw [if_pos ⟨rfl, rfl, by rw [z]⟩]
      · rw [if_neg (by omega)]; exact h2 m' (by omega)
    · dsimp only
      rw [gi_wi, if_neg (by omega)]; exact h3 s' hs'
  · obtain ⟨s1, m⟩ := s
    obtain ⟨h1, h2, h3, h4⟩ := hI
    dsimp only at h1 h2 h3 h4
    subst h1
    unfold fX10_laysFlat_L2
    dsimp only
    rw [l26]
    exact ok_t (Int32.le_refl _) (ok_some ⟨_, rfl, m, rfl, h2, h3, h4⟩)
theorem qFlat_L27 {w d n u o : Nat} {c r : zM} (hW : WLI w d n c r) (hu : u < n) (ho : gi r 38 0 (113 * u + 64) = nI o) (o8 : o ≤ 8) (h0 : ∀ m, m < 26 → gi r 44 0 (5 * (26 * u + m)) = 0) : ok (zloop (fX10_laysFlat_L27 (nI u)) zF (0, r)) (fun o' => ∃ r', o' = Sum.inl r' ∧ (∀ m, m < 26 → gi r' 44 0 (5 * (26 * u + m)) = req0 r u o m) ∧ (∀ s, s < 130 * u ∨ 130 * u + 130 ≤ s → gi r' 44 0 s = gi r 44 0 s) ∧ FS [44] r r') := by
  have h12 := hW.n12
  have ol : ∀ k, k < o → zin (gi r 38 0 (113 * u + (65 + 6 * k))) 26 = true := by
    obtain ⟨o', o8', oc, or', om, ol⟩ := hW.own hu
    have : o' = o := (nIeq (by omega) (by omega)).mp (or'.symm.trans ho)
    subst this
    exact ol
  refine ok_for (fun i s => s.1 = nI i ∧ (∀ m, m < 26 → gi s.2 44 0 (5 * (26 * u + m)) = req0 r u i m) ∧ (∀ s', s' < 130 * u ∨ 130 * u + 130 ≤ s' → gi s.2 44 0 s' = gi r 44 0 s') ∧ FS [44] r s.2) (a := 0) (b := o) (by omega) (by unfold zF; omega) ⟨rfl, h0, fun s _ => rfl, FS_refl r⟩ (fun i s _ hi hI => ?_) (fun s hI => ?_)
  · obtain ⟨s1, m⟩ := s
    obtain ⟨h1, h2, h3, h4⟩ := hI
    dsimp only at h1 h2 h3 h4
    subst h1
    have e38 : ∀ s, gi m 38 0 s = gi r 38 0 s := fun s => FSa h4 0 s (by decide) (by decide)
    obtain ⟨l, l1', l2', l3'⟩ := zin_e (ol i hi)
    unfold fX10_laysFlat_L27 fX10_laysFlat_J72
    dsimp only
    rw [qOwns (by omega), Option.bind_some, e38, ho]
    refine ok_f (fun q => by have := (nIle (by omega) (by omega)).mp q; omega) ?_
    rw [qOwnAt, Option.bind_some, zo _ (by omega) (by omega), zn_n (by omega), e38, l2', qFlatAt, Option.bind_some, nI_1, zo _ (by omega) (by omega), zo _ (by omega) (by omega), zo _ (by omega) (by omega), zn_n (by omega), zn_n (by omega), e38, show 113 * u + (65 + 6 * i) + 1 = 113 * u + (66 + 6 * i) by omega, nI_1]
    have key : ∀ V : Int32, V = (if gi r 38 0 (113 * u + (66 + 6 * i)) = 0 then 2 else 0) → ok (some (Sum.inl (nI (i + 1), wi m 44 0 (5 * (26 * u + l)) V) : (Int32 × zM) ⊕ (zM ⊕ Empty))) (fun o' => (∃ s', o' = Sum.inl s' ∧ s'.1 = nI (i + 1) ∧ (∀ m, m < 26 → gi s'.2 44 0 (5 * (26 * u + m)) = req0 r u (i + 1) m) ∧ (∀ s'', s'' < 130 * u ∨ 130 * u + 130 ≤ s'' → gi s'.2 44 0 s'' = gi r 44 0 s'') ∧ FS [44] r s'.2) ∨ ∃ e, o' = Sum.inr e ∧ ∃ r', e = Sum.inl r' ∧ (∀ m, m < 26 → gi r' 44 0 (5 * (26 * u + m)) = req0 r u o m) ∧ (∀ s, s < 130 * u ∨ 130 * u + 130 ≤ s → gi r' 44 0 s = gi r 44 0 s) ∧ FS [44] r r') := fun V hV => by
      refine ok_some (Or.inl ⟨_, rfl, rfl, fun m' hm' => ?_, fun s' hs' => ?_, FS_wa (by decide) (by decide) h4⟩)
      · dsimp only
        rw [gi_wi]
        have hs : zfd (fun k => gi r 38 0 (113 * u + (65 + 6 * k))) (nI m') (i + 1) = match zfd (fun k => gi r 38 0 (113 * u + (65 + 6 * k))) (nI m') i with | some k => some k | none => if gi r 38 0 (113 * u + (65 + 6 * i)) = nI m' then some i else none := rfl
        by_cases z : m' = l
        · subst z
          rw [if_pos ⟨rfl, rfl, rfl⟩]
          have hz : zfd (fun k => gi r 38 0 (113 * u + (65 + 6 * k))) (nI m') i = none := zfd_no (fun k hk q => hW.ownd hu ho o8 hk hi (q.trans l2'.symm))
          unfold req0
          rw [hs, hz, l2']
          dsimp only
          rw [if_pos rfl]
          exact hV
        · rw [if_neg (by omega), h2 m' hm']
          unfold req0
          rw [hs, l2', if_neg (fun q => z ((nIeq (by omega) (by omega)).mp q).symm)]
          cases zfd (fun k => gi r 38 0 (113 * u + (65 + 6 * k))) (nI m') i <;> rfl
      · dsimp only
        rw [gi_wi, if_neg (by omega)]; exact h3 s' hs'
    by_cases q : gi r 38 0 (113 * u + (66 + 6 * i)) = 0
    · rw [if_pos q]; exact key 2 (by rw [if_pos q])
    · rw [if_neg q]; exact key 0 (by rw [if_neg q])
  · obtain ⟨s1, m⟩ := s
    obtain ⟨h1, h2, h3, h4⟩ := hI
    dsimp only at h1 h2 h3 h4
    subst h1
    unfold fX10_laysFlat_L27
    dsimp only
    rw [qOwns (by omega), Option.bind_some, FSa h4 0 _ (by decide) (by decide), ho]
    exact ok_t (Int32.le_refl _) (ok_some ⟨_, rfl, m, rfl, h2, h3, h4⟩)
