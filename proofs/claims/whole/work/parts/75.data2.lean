/-! uses and own members: one more, one changed, one less -/
theorem zfd_s {f : Nat → Int32} {x : Int32} {n : Nat} : zfd f x (n + 1) = match zfd f x n with | some k => some k | none => if f n = x then some n else none := rfl
theorem US_add {u p q : Nat} {c r c' r' : Nat → Int32} (h : US u c r) (hp : r 7 = nI p) (h4 : p < 4) (hq : q < u) (hu : u ≤ 12) (hc8 : c' 8 = nI (p + 1)) (hr7 : r' 7 = nI (p + 1)) (hci : c' (9 + p) = nI q) (hri : r' (8 + 14 * p) = nI q) (hcc : c' (13 + p) = 0) (hrc : r' (9 + 14 * p) = 0) (hcl : ∀ m, m < 26 → c' (147 + (26 * p + m)) = nI m) (hr : ∀ s, 8 ≤ s → s < 8 + 14 * p → r' s = r s) (hc : ∀ k, k < p → c' (9 + k) = c (9 + k) ∧ c' (13 + k) = c (13 + k)) (hl : ∀ j, j < 26 * p → c' (147 + j) = c (147 + j)) : US u c' r' := by
  refine ⟨by rw [hr7]; exact zin_n (by omega) (by omega), by rw [hc8, hr7], fun k hk => ?_⟩
  rw [hr7, zn_n (by omega)] at hk
  have z0 : zn 0 = 0 := zn_n (a := 0) (by omega)
  by_cases e : k = p
  · subst e
    refine ⟨by rw [hri]; exact zin_n hq (by omega), by rw [hci, hri], by rw [hrc]; decide, by rw [hcc, hrc], fun i hi => ?_, fun i j _ hj => ?_, fun m hm => ?_⟩
    · rw [hrc, z0] at hi; omega
    · rw [hrc, z0] at hj; omega
    · rw [hcl m hm]
      unfold becR
      rw [hrc, z0]
      rfl
  · have hkp : k < p := by omega
    exact U1_cg (h.2.2 k (by rw [hp, zn_n (by omega)]; exact hkp)) (fun s h1 h2 => hr s (by omega) (by omega)) (hc k hkp).1 (hc k hkp).2 (fun m hm => hl _ (by omega))
theorem U1_new {u k n m : Nat} {to : Int32} {c r c' r' : Nat → Int32} (h : U1 u k c r) (hn : r (9 + 14 * k) = nI n) (h6 : n < 6) (hno : zfd (fun i => r (10 + 14 * k + 2 * i)) (nI m) n = none) (hm : m < 26) (hto : to = -1 ∨ zin to 26 = true) (hne : to ≠ nI m)
    (r8 : r' (8 + 14 * k) = r (8 + 14 * k)) (r9 : r' (9 + 14 * k) = nI (n + 1)) (ra : r' (10 + 14 * k + 2 * n) = nI m) (rb : r' (11 + 14 * k + 2 * n) = to) (ro : ∀ i, i < n → r' (10 + 14 * k + 2 * i) = r (10 + 14 * k + 2 * i) ∧ r' (11 + 14 * k + 2 * i) = r (11 + 14 * k + 2 * i)) (c9 : c' (9 + k) = c (9 + k)) (c13 : c' (13 + k) = nI (n + 1)) (cm : c' (147 + (26 * k + m)) = to) (co : ∀ m', m' < 26 → m' ≠ m → c' (147 + (26 * k + m')) = c (147 + (26 * k + m'))) : U1 u k c' r' := by
  obtain ⟨h1, h2, h3, h4, h5, h6', h7⟩ := h
  have ez9 : zn (r (9 + 14 * k)) = n := by rw [hn, zn_n (by omega)]
  rw [ez9] at h5 h6'
  refine ⟨by rw [r8]; exact h1, by rw [r8, c9]; exact h2, by rw [r9]; exact zin_n (by omega) (by omega), by rw [c13, r9], fun i hi => ?_, fun i j hij hj => ?_, fun m' hm' => ?_⟩
  · rw [r9, zn_n (by omega)] at hi
    by_cases e : i = n
    · subst e
      rw [ra, rb]
      exact ⟨zin_n hm (by omega), hto, hne⟩
    · rw [(ro i (by omega)).1, (ro i (by omega)).2]
      exact h5 i (by omega)
  · rw [r9, zn_n (by omega)] at hj
    rw [(ro i (by omega)).1]
    by_cases e : j = n
    · subst e
      rw [ra]
      exact zfd_none hno i hij
    · rw [(ro j (by omega)).1]
      exact h6' i j hij (by omega)
  · have ez : ∀ x : Int32, zfd (fun i => r' (10 + 14 * k + 2 * i)) x n = zfd (fun i => r (10 + 14 * k + 2 * i)) x n := fun x => zfd_cg (fun i hi => (ro i hi).1)
    by_cases e : m' = m
    · subst e
      rw [cm]
      unfold becR
      rw [r9, zn_n (by omega), zfd_s, ez, hno]
      show to = match (if r' (10 + 14 * k + 2 * n) = nI m' then some n else none) with | none => nI m' | some i => r' (11 + 14 * k + 2 * i)
      rw [if_pos ra]
      exact rb.symm
    · rw [co m' hm' e, h7 m' hm']
      unfold becR
      rw [ez9, r9, zn_n (by omega), zfd_s, ez]
      cases e2 : zfd (fun i => r (10 + 14 * k + 2 * i)) (nI m') n with
      | some i => exact (ro i (zfd_some e2).1).2.symm
      | none =>
        show nI m' = match (if r' (10 + 14 * k + 2 * n) = nI m' then some n else none) with | none => nI m' | some i => r' (11 + 14 * k + 2 * i)
        rw [if_neg (by rw [ra, nIeq (by omega) (by omega)]; omega)]
theorem U1_set {u k n m i0 : Nat} {to : Int32} {c r c' r' : Nat → Int32} (h : U1 u k c r) (hn : r (9 + 14 * k) = nI n) (h6 : n ≤ 6) (hyes : zfd (fun i => r (10 + 14 * k + 2 * i)) (nI m) n = some i0) (hm : m < 26) (hto : to = -1 ∨ zin to 26 = true) (hne : to ≠ nI m)
    (r8 : r' (8 + 14 * k) = r (8 + 14 * k)) (r9 : r' (9 + 14 * k) = nI n) (ra : ∀ i, i < n → r' (10 + 14 * k + 2 * i) = r (10 + 14 * k + 2 * i)) (rb : r' (11 + 14 * k + 2 * i0) = to) (ro : ∀ i, i < n → i ≠ i0 → r' (11 + 14 * k + 2 * i) = r (11 + 14 * k + 2 * i)) (c9 : c' (9 + k) = c (9 + k)) (c13 : c' (13 + k) = nI n) (cm : c' (147 + (26 * k + m)) = to) (co : ∀ m', m' < 26 → m' ≠ m → c' (147 + (26 * k + m')) = c (147 + (26 * k + m'))) : U1 u k c' r' := by
  obtain ⟨h1, h2, h3, h4, h5, h6', h7⟩ := h
  obtain ⟨i1, i2, i3⟩ := zfd_some hyes
  have ez9 : zn (r (9 + 14 * k)) = n := by rw [hn, zn_n (by omega)]
  rw [ez9] at h5 h6'
  refine ⟨by rw [r8]; exact h1, by rw [r8, c9]; exact h2, by rw [r9]; exact zin_n (by omega) (by omega), by rw [c13, r9], fun i hi => ?_, fun i j hij hj => ?_, fun m' hm' => ?_⟩
  · rw [r9, zn_n (by omega)] at hi
    rw [ra i hi]
    by_cases e : i = i0
    · subst e
      rw [rb]
      exact ⟨(h5 i hi).1, hto, fun q => hne (q.trans i2)⟩
    · rw [ro i hi e]
      exact h5 i hi
  · rw [r9, zn_n (by omega)] at hj
    rw [ra i (by omega), ra j hj]
    exact h6' i j hij hj
  · have ez : ∀ x : Int32, zfd (fun i => r' (10 + 14 * k + 2 * i)) x n = zfd (fun i => r (10 + 14 * k + 2 * i)) x n := fun x => zfd_cg (fun i hi => ra i hi)
    by_cases e : m' = m
    · subst e
      rw [cm]
      unfold becR
      rw [r9, zn_n (by omega), ez, hyes]
      exact rb.symm
    · rw [co m' hm' e, h7 m' hm']
      unfold becR
      rw [ez9, r9, zn_n (by omega), ez]
      cases e2 : zfd (fun i => r (10 + 14 * k + 2 * i)) (nI m') n with
      | none => rfl
      | some i =>
        obtain ⟨j1, j2, -⟩ := zfd_some e2
        refine (ro i j1 (fun q => ?_)).symm
        subst q
        have := j2.symm.trans i2
        rw [nIeq (by omega) (by omega)] at this
        exact e this
theorem U1_del {u k n m i0 : Nat} {c r c' r' : Nat → Int32} (h : U1 u k c r) (hn : r (9 + 14 * k) = nI n) (h6 : n ≤ 6) (hyes : zfd (fun i => r (10 + 14 * k + 2 * i)) (nI m) n = some i0) (hm : m < 26)
    (r8 : r' (8 + 14 * k) = r (8 + 14 * k)) (r9 : r' (9 + 14 * k) = nI (n - 1)) (ra : ∀ i, i < n - 1 → r' (10 + 14 * k + 2 * i) = r (10 + 14 * k + 2 * (if i < i0 then i else i + 1)) ∧ r' (11 + 14 * k + 2 * i) = r (11 + 14 * k + 2 * (if i < i0 then i else i + 1))) (c9 : c' (9 + k) = c (9 + k)) (c13 : c' (13 + k) = nI (n - 1)) (cm : c' (147 + (26 * k + m)) = nI m) (co : ∀ m', m' < 26 → m' ≠ m → c' (147 + (26 * k + m')) = c (147 + (26 * k + m'))) : U1 u k c' r' := by
  obtain ⟨h1, h2, h3, h4, h5, h6', h7⟩ := h
  obtain ⟨i1, i2, i3⟩ := zfd_some hyes
  have ez9 : zn (r (9 + 14 * k)) = n := by rw [hn, zn_n (by omega)]
  rw [ez9] at h5 h6'
  have hf : ∀ i, i < n - 1 → (if i < i0 then i else i + 1) < n ∧ (if i < i0 then i else i + 1) ≠ i0 := fun i hi => by split <;> omega
  have hne : ∀ i j, i < n → j < n → i ≠ j → r (10 + 14 * k + 2 * i) ≠ r (10 + 14 * k + 2 * j) := fun i j hi hj q => by
    by_cases hl : i < j
    · exact h6' i j hl hj
    · exact (h6' j i (by omega) hi).symm
  refine ⟨by rw [r8]; exact h1, by rw [r8, c9]; exact h2, by rw [r9]; exact zin_n (by omega) (by omega), by rw [c13, r9], fun i hi => ?_, fun i j hij hj => ?_, fun m' hm' => ?_⟩
  · rw [r9, zn_n (by omega)] at hi
    rw [(ra i hi).1, (ra i hi).2]
    exact h5 _ (hf i hi).1
  · rw [r9, zn_n (by omega)] at hj
    rw [(ra i (by omega)).1, (ra j hj).1]
    refine hne _ _ (hf i (by omega)).1 (hf j hj).1 ?_
    split <;> split <;> omega
  · by_cases e : m' = m
    · subst e
      rw [cm]
      unfold becR
      rw [r9, zn_n (by omega), zfd_no (fun i hi => by
        show r' (10 + 14 * k + 2 * i) ≠ nI m'
        rw [(ra i hi).1, ← i2]
        exact hne _ _ (hf i hi).1 i1 (hf i hi).2)]
    · rw [co m' hm' e, h7 m' hm']
      unfold becR
      rw [ez9, r9, zn_n (by omega)]
      cases e2 : zfd (fun i => r (10 + 14 * k + 2 * i)) (nI m') n with
      | none =>
        rw [zfd_no (fun i hi => by
          show r' (10 + 14 * k + 2 * i) ≠ nI m'
          rw [(ra i hi).1]
          exact zfd_none e2 _ (hf i hi).1)]
      | some j =>
        obtain ⟨j1, j2, -⟩ := zfd_some e2
        have hji : j ≠ i0 := fun q => by
          subst q
          have := j2.symm.trans i2
          rw [nIeq (by omega) (by omega)] at this
          exact e this
        have hjj : (if (if j < i0 then j else j - 1) < i0 then (if j < i0 then j else j - 1) else (if j < i0 then j else j - 1) + 1) = j := by
          by_cases q : j < i0
          · rw [if_pos q, if_pos q]
          · rw [if_neg q, if_neg (by omega)]; omega
        have hjn : (if j < i0 then j else j - 1) < n - 1 := by split <;> omega
        have e3 := ra _ hjn
        rw [hjj] at e3
        rw [zfd_is (f := fun i => r' (10 + 14 * k + 2 * i)) hjn (e3.1.trans j2) (fun i hi q => ?_)]
        · exact e3.2.symm
        · have q2 : r' (10 + 14 * k + 2 * i) = nI m' := q
          rw [(ra i (by omega)).1] at q2
          have q3 : r (10 + 14 * k + 2 * j) = nI m' := j2
          refine hne _ _ (hf i (by omega)).1 j1 ?_ (q2.trans q3.symm)
          intro q4
          by_cases q5 : j < i0
          · rw [if_pos q5] at hi
            split at q4 <;> omega
          · rw [if_neg q5] at hi
            split at q4 <;> omega
theorem OS_new {o m cn : Nat} {v : Int32} {c r c' r' : Nat → Int32} (h : OS c r) (ho : r 64 = nI o) (h8 : o < 8) (hno : zfd (fun k => r (65 + 6 * k)) (nI m) o = none) (hm : m < 26)
    (r64 : r' 64 = nI (o + 1)) (ra : r' (65 + 6 * o) = nI m) (rb : r' (66 + 6 * o) = nI cn) (hv : cn = 0 ∨ (cn = 1 ∧ zin v 1027 = true ∧ r' (67 + 6 * o) = v ∧ c' (43 + 4 * m) = v)) (ro : ∀ s, 65 ≤ s → s < 65 + 6 * o → r' s = r s) (c2 : c' 2 = nI (o + 1)) (cm : c' (17 + m) = nI cn) (co : ∀ m', m' < 26 → m' ≠ m → c' (17 + m') = c (17 + m') ∧ ∀ i, i < 4 → c' (43 + (4 * m' + i)) = c (43 + (4 * m' + i))) : OS c' r' := by
  obtain ⟨h1, h2, h3, h4, h5⟩ := h
  have ez9 : zn (r 64) = o := by rw [ho, zn_n (by omega)]
  have ez8 : zn (r' 64) = o + 1 := by rw [r64, zn_n (by omega)]
  rw [ez9] at h3 h4
  refine ⟨by rw [r64]; exact zin_n (by omega) (by omega), by rw [r64, c2], fun k hk => ?_, fun i j hij hj => ?_, fun m' hm' => ?_⟩
  · rw [ez8] at hk
    by_cases e : k = o
    · subst e
      rw [ra, rb]
      refine ⟨zin_n hm (by omega), zin_n (by omega) (by omega), fun i hi => ?_⟩
      rw [zn_n (by omega)] at hi
      rcases hv with q | ⟨q1, q2, q3, q4⟩
      · omega
      · rw [show i = 0 by omega, Nat.add_zero, Nat.add_zero, zn_n (by omega), q3, q4]
        exact ⟨q2, rfl⟩
    · have hk2 : k < o := by omega
      obtain ⟨a1, a2, a3⟩ := h3 k hk2
      have b2 := (zin_z a2).2.1
      have e65 := ro (65 + 6 * k) (by omega) (by omega)
      have e66 := ro (66 + 6 * k) (by omega) (by omega)
      rw [e65, e66]
      refine ⟨a1, a2, fun i hi => ?_⟩
      obtain ⟨b3, b4⟩ := a3 i hi
      rw [ro (67 + 6 * k + i) (by omega) (by omega)]
      refine ⟨b3, ?_⟩
      rw [(co _ (zin_z a1).2.1 (fun q => ?_)).2 i (by omega)]
      · exact b4
      · have := zfd_none hno k hk2
        exact this (by show r (65 + 6 * k) = nI m; rw [← q]; exact (zin_z a1).1)
  · rw [ez8] at hj
    rw [ro (65 + 6 * i) (by omega) (by omega)]
    by_cases e : j = o
    · subst e
      rw [ra]
      exact zfd_none hno i hij
    · rw [ro (65 + 6 * j) (by omega) (by omega)]
      exact h4 i j hij (by omega)
  · have ez : ∀ x : Int32, zfd (fun k => r' (65 + 6 * k)) x o = zfd (fun k => r (65 + 6 * k)) x o := fun x => zfd_cg (fun k hk => ro _ (by omega) (by omega))
    by_cases e : m' = m
    · subst e
      rw [cm]
      unfold cntR
      rw [ez8, zfd_s, ez, hno]
      show nI cn = match (if r' (65 + 6 * o) = nI m' then some o else none) with | none => -1 | some k => r' (66 + 6 * k)
      rw [if_pos ra]
      exact rb.symm
    · rw [(co m' hm' e).1, h5 m' hm']
      unfold cntR
      rw [ez9, ez8, zfd_s, ez]
      cases e2 : zfd (fun k => r (65 + 6 * k)) (nI m') o with
      | some k => exact (ro _ (by omega) (by have := (zfd_some e2).1; omega)).symm
      | none =>
        show (-1 : Int32) = match (if r' (65 + 6 * o) = nI m' then some o else none) with | none => -1 | some k => r' (66 + 6 * k)
        rw [if_neg (by rw [ra, nIeq (by omega) (by omega)]; omega)]
theorem OS_set {o m cn k0 : Nat} {v : Int32} {c r c' r' : Nat → Int32} (h : OS c r) (ho : r 64 = nI o) (h8 : o ≤ 8) (hyes : zfd (fun k => r (65 + 6 * k)) (nI m) o = some k0) (hm : m < 26)
    (rb : r' (66 + 6 * k0) = nI cn) (hv : cn = 0 ∨ (cn = 1 ∧ zin v 1027 = true ∧ r' (67 + 6 * k0) = v ∧ c' (43 + 4 * m) = v)) (ro : ∀ s, 64 ≤ s → s < 113 → s ≠ 66 + 6 * k0 → s ≠ 67 + 6 * k0 → r' s = r s) (c2 : c' 2 = c 2) (cm : c' (17 + m) = nI cn) (co : ∀ m', m' < 26 → m' ≠ m → c' (17 + m') = c (17 + m') ∧ ∀ i, i < 4 → c' (43 + (4 * m' + i)) = c (43 + (4 * m' + i))) : OS c' r' := by
  obtain ⟨h1, h2, h3, h4, h5⟩ := h
  obtain ⟨i1, i2, i3⟩ := zfd_some hyes
  have ez9 : zn (r 64) = o := by rw [ho, zn_n (by omega)]
  have r64 : r' 64 = r 64 := ro 64 (by omega) (by omega) (by omega) (by omega)
  have e65 : ∀ k, k < o → r' (65 + 6 * k) = r (65 + 6 * k) := fun k hk => ro _ (by omega) (by omega) (by omega) (by omega)
  have e66 : ∀ k, k < o → k ≠ k0 → r' (66 + 6 * k) = r (66 + 6 * k) := fun k hk hne => ro _ (by omega) (by omega) (by omega) (by omega)
  rw [ez9] at h3 h4
  have hlet : ∀ k, k < o → k ≠ k0 → zn (r (65 + 6 * k)) ≠ m := fun k hk hne q => by
    have a1 := (zin_z (h3 k hk).1).1
    rw [q] at a1
    have i2' : r (65 + 6 * k0) = nI m := i2
    by_cases hl : k < k0
    · exact h4 k k0 hl i1 (a1.trans i2'.symm)
    · exact h4 k0 k (by omega) hk (i2'.trans a1.symm)
  refine ⟨by rw [r64]; exact h1, by rw [r64, c2]; exact h2, fun k hk => ?_, fun i j hij hj => ?_, fun m' hm' => ?_⟩
  · rw [r64, ez9] at hk
    obtain ⟨a1, a2, a3⟩ := h3 k hk
    rw [e65 k hk]
    by_cases e : k = k0
    · subst e
      rw [rb]
      have i2' : r (65 + 6 * k) = nI m := i2
      refine ⟨a1, zin_n (by omega) (by omega), fun i hi => ?_⟩
      rw [zn_n (by omega)] at hi
      rcases hv with q | ⟨q1, q2, q3, q4⟩
      · omega
      · rw [show i = 0 by omega, Nat.add_zero, Nat.add_zero, i2', zn_n (by omega), q3, q4]
        exact ⟨q2, rfl⟩
    · rw [e66 k hk e]
      have b2 := (zin_z a2).2.1
      refine ⟨a1, a2, fun i hi => ?_⟩
      obtain ⟨b3, b4⟩ := a3 i hi
      rw [ro (67 + 6 * k + i) (by omega) (by omega) (by omega) (by omega), (co _ (zin_z a1).2.1 (hlet k hk e)).2 i (by omega)]
      exact ⟨b3, b4⟩
  · rw [r64, ez9] at hj
    rw [e65 i (by omega), e65 j hj]
    exact h4 i j hij hj
  · have ez : ∀ x : Int32, zfd (fun k => r' (65 + 6 * k)) x o = zfd (fun k => r (65 + 6 * k)) x o := fun x => zfd_cg (fun k hk => e65 k hk)
    by_cases e : m' = m
    · subst e
      rw [cm]
      unfold cntR
      rw [r64, ez9, ez, hyes]
      exact rb.symm
    · rw [(co m' hm' e).1, h5 m' hm']
      unfold cntR
      rw [r64, ez9, ez]
      cases e2 : zfd (fun k => r (65 + 6 * k)) (nI m') o with
      | none => rfl
      | some k =>
        obtain ⟨j1, j2, -⟩ := zfd_some e2
        refine (e66 k j1 (fun q => ?_)).symm
        subst q
        have := j2.symm.trans i2
        rw [nIeq (by omega) (by omega)] at this
        exact e this
theorem OS_del {o m k0 : Nat} {c r c' r' : Nat → Int32} (h : OS c r) (ho : r 64 = nI o) (h8 : o ≤ 8) (hyes : zfd (fun k => r (65 + 6 * k)) (nI m) o = some k0) (hm : m < 26)
    (r64 : r' 64 = nI (o - 1)) (ro : ∀ k j, k < o - 1 → j < 6 → r' (65 + 6 * k + j) = r (65 + 6 * (if k < k0 then k else k + 1) + j)) (c2 : c' 2 = nI (o - 1)) (cm : c' (17 + m) = -1) (co : ∀ m', m' < 26 → m' ≠ m → c' (17 + m') = c (17 + m') ∧ ∀ i, i < 4 → c' (43 + (4 * m' + i)) = c (43 + (4 * m' + i))) : OS c' r' := by
  obtain ⟨h1, h2, h3, h4, h5⟩ := h
  obtain ⟨i1, i2, i3⟩ := zfd_some hyes
  have ez9 : zn (r 64) = o := by rw [ho, zn_n (by omega)]
  have ez8 : zn (r' 64) = o - 1 := by rw [r64, zn_n (by omega)]
  rw [ez9] at h3 h4
  have hf : ∀ k, k < o - 1 → (if k < k0 then k else k + 1) < o ∧ (if k < k0 then k else k + 1) ≠ k0 := fun k hk => by split <;> omega
  have hne : ∀ i j, i < o → j < o → i ≠ j → r (65 + 6 * i) ≠ r (65 + 6 * j) := fun i j hi hj q => by
    by_cases hl : i < j
    · exact h4 i j hl hj
    · exact (h4 j i (by omega) hi).symm
  have e65 : ∀ k, k < o - 1 → r' (65 + 6 * k) = r (65 + 6 * (if k < k0 then k else k + 1)) := fun k hk => ro k 0 hk (by omega)
  have e66 : ∀ k, k < o - 1 → r' (66 + 6 * k) = r (66 + 6 * (if k < k0 then k else k + 1)) := fun k hk => by
    have := ro k 1 hk (by omega)
    rw [show 65 + 6 * k + 1 = 66 + 6 * k by omega, show 65 + 6 * (if k < k0 then k else k + 1) + 1 = 66 + 6 * (if k < k0 then k else k + 1) by omega] at this
    exact this
  have hlet : ∀ k, k < o → k ≠ k0 → zn (r (65 + 6 * k)) ≠ m := fun k hk hn q => by
    have a1 := (zin_z (h3 k hk).1).1
    rw [q] at a1
    have i2' : r (65 + 6 * k0) = nI m := i2
    exact hne k k0 hk i1 hn (a1.trans i2'.symm)
  refine ⟨by rw [r64]; exact zin_n (by omega) (by omega), by rw [r64, c2], fun k hk => ?_, fun i j hij hj => ?_, fun m' hm' => ?_⟩
  · rw [ez8] at hk
    obtain ⟨f1, f2⟩ := hf k hk
    obtain ⟨a1, a2, a3⟩ := h3 _ f1
    have b2 := (zin_z a2).2.1
    rw [e65 k hk, e66 k hk]
    refine ⟨a1, a2, fun i hi => ?_⟩
    obtain ⟨b3, b4⟩ := a3 i hi
    have e67 := ro k (2 + i) hk (by omega)
    rw [show 65 + 6 * k + (2 + i) = 67 + 6 * k + i by omega, show 65 + 6 * (if k < k0 then k else k + 1) + (2 + i) = 67 + 6 * (if k < k0 then k else k + 1) + i by omega] at e67
    rw [e67, (co _ (zin_z a1).2.1 (hlet _ f1 f2)).2 i (by omega)]
    exact ⟨b3, b4⟩
  · rw [ez8] at hj
    rw [e65 i (by omega), e65 j hj]
    refine hne _ _ (hf i (by omega)).1 (hf j hj).1 ?_
    split <;> split <;> omega
  · by_cases e : m' = m
    · subst e
      rw [cm]
      unfold cntR
      rw [ez8, zfd_no (fun k hk => by
        show r' (65 + 6 * k) ≠ nI m'
        rw [e65 k hk, ← i2]
        exact hne _ _ (hf k hk).1 i1 (hf k hk).2)]
    · rw [(co m' hm' e).1, h5 m' hm']
      unfold cntR
      rw [ez9, ez8]
      cases e2 : zfd (fun k => r (65 + 6 * k)) (nI m') o with
      | none =>
        rw [zfd_no (fun k hk => by
          show r' (65 + 6 * k) ≠ nI m'
          rw [e65 k hk]
          exact zfd_none e2 _ (hf k hk).1)]
      | some j =>
        obtain ⟨j1, j2, -⟩ := zfd_some e2
        have hji : j ≠ k0 := fun q => by
          subst q
          have := j2.symm.trans i2
          rw [nIeq (by omega) (by omega)] at this
          exact e this
        have hjj : (if (if j < k0 then j else j - 1) < k0 then (if j < k0 then j else j - 1) else (if j < k0 then j else j - 1) + 1) = j := by
          by_cases q : j < k0
          · rw [if_pos q, if_pos q]
          · rw [if_neg q, if_neg (by omega)]; omega
        have hjn : (if j < k0 then j else j - 1) < o - 1 := by split <;> omega
        have e3 := e65 _ hjn
        have e4 := e66 _ hjn
        rw [hjj] at e3 e4
        rw [zfd_is (f := fun k => r' (65 + 6 * k)) hjn (e3.trans j2) (fun i hi q => ?_)]
        · exact e4.symm
        · have q2 : r' (65 + 6 * i) = nI m' := q
          rw [e65 i (by omega)] at q2
          have q3 : r (65 + 6 * j) = nI m' := j2
          refine hne _ _ (hf i (by omega)).1 j1 ?_ (q2.trans q3.symm)
          intro q4
          by_cases q5 : j < k0
          · rw [if_pos q5] at hi
            split at q4 <;> omega
          · rw [if_neg q5] at hi
            split at q4 <;> omega
