/-! what the class's row and the reference's row of a unit have to do with each other -/
def cntR (r : Nat → Int32) (m : Nat) : Int32 := match zfd (fun k => r (65 + 6 * k)) (nI m) (zn (r 64)) with
  | none => -1
  | some k => r (66 + 6 * k)
def PS (u : Nat) (c r : Nat → Int32) : Prop := zin (r 2) 5 = true ∧ c 3 = r 2 ∧ ∀ k, k < zn (r 2) → zin (r (3 + k)) u = true ∧ c (4 + k) = r (3 + k)
def U1 (u k : Nat) (c r : Nat → Int32) : Prop := zin (r (8 + 14 * k)) u = true ∧ c (9 + k) = r (8 + 14 * k) ∧ zin (r (9 + 14 * k)) 7 = true ∧ c (13 + k) = r (9 + 14 * k) ∧ (∀ i, i < zn (r (9 + 14 * k)) → zin (r (10 + 14 * k + 2 * i)) 26 = true ∧ (r (11 + 14 * k + 2 * i) = -1 ∨ zin (r (11 + 14 * k + 2 * i)) 26 = true) ∧ r (11 + 14 * k + 2 * i) ≠ r (10 + 14 * k + 2 * i)) ∧ (∀ i j, i < j → j < zn (r (9 + 14 * k)) → r (10 + 14 * k + 2 * i) ≠ r (10 + 14 * k + 2 * j)) ∧ ∀ m, m < 26 → c (147 + (26 * k + m)) = becR r k m
def US (u : Nat) (c r : Nat → Int32) : Prop := zin (r 7) 5 = true ∧ c 8 = r 7 ∧ ∀ k, k < zn (r 7) → U1 u k c r
def OS (c r : Nat → Int32) : Prop := zin (r 64) 9 = true ∧ c 2 = r 64 ∧ (∀ k, k < zn (r 64) → zin (r (65 + 6 * k)) 26 = true ∧ zin (r (66 + 6 * k)) 5 = true ∧ ∀ i, i < zn (r (66 + 6 * k)) → zin (r (67 + 6 * k + i)) 1027 = true ∧ c (43 + (4 * zn (r (65 + 6 * k)) + i)) = r (67 + 6 * k + i)) ∧ (∀ i j, i < j → j < zn (r 64) → r (65 + 6 * i) ≠ r (65 + 6 * j)) ∧ ∀ m, m < 26 → c (17 + m) = cntR r m
def RU (u : Nat) (c r : Nat → Int32) : Prop := (zin (r 0) 2 = true ∧ c 0 = r 0 ∧ zin (r 1) 26 = true ∧ c 1 = r 1) ∧ PS u c r ∧ US u c r ∧ OS c r
def RelW (n : Nat) (cw rw : Nat → Nat → Int32) : Prop := n ≤ 12 ∧ ∀ u, u < n → RU u (cw u) (rw u) ∧ (∀ k, k < zn (rw u 2) → rw (zn (rw u (3 + k))) 0 = 0 ∧ rw u 0 = 0) ∧ ∀ k, k < zn (rw u 7) → rw (zn (rw u (8 + 14 * k))) 0 = 1
theorem PS.lt {u k : Nat} {c r : Nat → Int32} (h : PS u c r) (hk : k < zn (r 2)) : k < 4 := by have := (zin_z h.1).2.1; omega
theorem US.lt {u k : Nat} {c r : Nat → Int32} (h : US u c r) (hk : k < zn (r 7)) : k < 4 := by have := (zin_z h.1).2.1; omega
theorem OS.lt {k : Nat} {c r : Nat → Int32} (h : OS c r) (hk : k < zn (r 64)) : k < 8 := by have := (zin_z h.1).2.1; omega
theorem PS_cg {u : Nat} {c r c' r' : Nat → Int32} (h : PS u c r) (hr : ∀ s, 2 ≤ s → s < 7 → r' s = r s) (hc : ∀ s, 3 ≤ s → s < 8 → c' s = c s) : PS u c' r' := by
  have e2 := hr 2 (by omega) (by omega)
  refine ⟨by rw [e2]; exact h.1, by rw [e2, hc 3 (by omega) (by omega)]; exact h.2.1, fun k hk => ?_⟩
  rw [e2] at hk
  have h4 := h.lt hk
  rw [hr (3 + k) (by omega) (by omega), hc (4 + k) (by omega) (by omega)]
  exact h.2.2 k hk
theorem becR_cg {r r' : Nat → Int32} {k m : Nat} (h9 : r' (9 + 14 * k) = r (9 + 14 * k)) (h : ∀ i, i < zn (r (9 + 14 * k)) → r' (10 + 14 * k + 2 * i) = r (10 + 14 * k + 2 * i) ∧ r' (11 + 14 * k + 2 * i) = r (11 + 14 * k + 2 * i)) : becR r' k m = becR r k m := by
  unfold becR
  rw [h9, zfd_cg (fun i hi => (h i hi).1)]
  cases e : zfd (fun i => r (10 + 14 * k + 2 * i)) (nI m) (zn (r (9 + 14 * k))) with
  | none => rfl
  | some i => exact (h i (zfd_some e).1).2
theorem U1_cg {u k : Nat} {c r c' r' : Nat → Int32} (h : U1 u k c r) (hr : ∀ s, 8 + 14 * k ≤ s → s < 22 + 14 * k → r' s = r s) (hc1 : c' (9 + k) = c (9 + k)) (hc2 : c' (13 + k) = c (13 + k)) (hc3 : ∀ m, m < 26 → c' (147 + (26 * k + m)) = c (147 + (26 * k + m))) : U1 u k c' r' := by
  obtain ⟨h1, h2, h3, h4, h5, h6, h7⟩ := h
  have e8 := hr (8 + 14 * k) (by omega) (by omega)
  have e9 := hr (9 + 14 * k) (by omega) (by omega)
  have hb := (zin_z h3).2.1
  refine ⟨by rw [e8]; exact h1, by rw [e8, hc1]; exact h2, by rw [e9]; exact h3, by rw [e9, hc2]; exact h4, fun i hi => ?_, fun i j hij hj => ?_, fun m hm => ?_⟩
  · rw [e9] at hi
    rw [hr (10 + 14 * k + 2 * i) (by omega) (by omega), hr (11 + 14 * k + 2 * i) (by omega) (by omega)]
    exact h5 i hi
  · rw [e9] at hj
    rw [hr (10 + 14 * k + 2 * i) (by omega) (by omega), hr (10 + 14 * k + 2 * j) (by omega) (by omega)]
    exact h6 i j hij hj
  · rw [hc3 m hm, h7 m hm]
    exact (becR_cg e9 (fun i hi => ⟨hr _ (by omega) (by omega), hr _ (by omega) (by omega)⟩)).symm
theorem US_cg {u : Nat} {c r c' r' : Nat → Int32} (h : US u c r) (hr : ∀ s, 7 ≤ s → s < 64 → r' s = r s) (hc : ∀ s, 8 ≤ s → s < 17 → c' s = c s) (hc2 : ∀ s, 147 ≤ s → s < 251 → c' s = c s) : US u c' r' := by
  have e7 := hr 7 (by omega) (by omega)
  refine ⟨by rw [e7]; exact h.1, by rw [e7, hc 8 (by omega) (by omega)]; exact h.2.1, fun k hk => ?_⟩
  rw [e7] at hk
  have h4 := h.lt hk
  exact U1_cg (h.2.2 k hk) (fun s h1 h2 => hr s (by omega) (by omega)) (hc _ (by omega) (by omega)) (hc _ (by omega) (by omega)) (fun m hm => hc2 _ (by omega) (by omega))
theorem cntR_cg {r r' : Nat → Int32} {m : Nat} (h64 : r' 64 = r 64) (h : ∀ k, k < zn (r 64) → r' (65 + 6 * k) = r (65 + 6 * k) ∧ r' (66 + 6 * k) = r (66 + 6 * k)) : cntR r' m = cntR r m := by
  unfold cntR
  rw [h64, zfd_cg (fun i hi => (h i hi).1)]
  cases e : zfd (fun k => r (65 + 6 * k)) (nI m) (zn (r 64)) with
  | none => rfl
  | some i => exact (h i (zfd_some e).1).2
theorem OS_cg {c r c' r' : Nat → Int32} (h : OS c r) (hr : ∀ s, 64 ≤ s → s < 113 → r' s = r s) (hc0 : c' 2 = c 2) (hc : ∀ s, 17 ≤ s → s < 147 → c' s = c s) : OS c' r' := by
  obtain ⟨h1, h2, h3, h4, h5⟩ := id h
  have e64 := hr 64 (by omega) (by omega)
  refine ⟨by rw [e64]; exact h1, by rw [e64, hc0]; exact h2, fun k hk => ?_, fun i j hij hj => ?_, fun m hm => ?_⟩
  · rw [e64] at hk
    have hk8 := h.lt hk
    have e65 := hr (65 + 6 * k) (by omega) (by omega)
    have e66 := hr (66 + 6 * k) (by omega) (by omega)
    obtain ⟨a1, a2, a3⟩ := h3 k hk
    have b1 := (zin_z a1).2.1
    have b2 := (zin_z a2).2.1
    refine ⟨by rw [e65]; exact a1, by rw [e66]; exact a2, fun i hi => ?_⟩
    rw [e66] at hi
    rw [hr (67 + 6 * k + i) (by omega) (by omega), e65, hc _ (by omega) (by omega)]
    exact a3 i hi
  · rw [e64] at hj
    have hj8 := h.lt hj
    rw [hr (65 + 6 * i) (by omega) (by omega), hr (65 + 6 * j) (by omega) (by omega)]
    exact h4 i j hij hj
  · rw [hc (17 + m) (by omega) (by omega), h5 m hm]
    refine (cntR_cg e64 (fun k hk => ?_)).symm
    have hk8 := h.lt hk
    exact ⟨hr _ (by omega) (by omega), hr _ (by omega) (by omega)⟩
/-- one unit is changed -/
theorem RelW_act {n x : Nat} {cw rw cw' rw' : Nat → Nat → Int32} (h : RelW n cw rw) (hx : x < n) (hc : ∀ u, u < n → u ≠ x → cw' u = cw u) (hr : ∀ u, u < n → u ≠ x → rw' u = rw u) (hU : RU x (cw' x) (rw' x)) (h0 : rw' x 0 = rw x 0) (hp : ∀ k, k < zn (rw' x 2) → rw (zn (rw' x (3 + k))) 0 = 0 ∧ rw x 0 = 0) (hu : ∀ k, k < zn (rw' x 7) → rw (zn (rw' x (8 + 14 * k))) 0 = 1) : RelW n cw' rw' := by
  have k0 : ∀ u, u < n → rw' u 0 = rw u 0 := fun u hu => by
    by_cases e : u = x
    · rw [e, h0]
    · rw [hr u hu e]
  refine ⟨h.1, fun u hun => ?_⟩
  by_cases e : u = x
  · subst e
    refine ⟨hU, fun k hk => ?_, fun k hk => ?_⟩
    · have := (zin_z (hU.2.1.2.2 k hk).1).2.1
      exact ⟨by rw [k0 _ (by omega)]; exact (hp k hk).1, by rw [h0]; exact (hp k hk).2⟩
    · have := (zin_z (hU.2.2.1.2.2 k hk).1).2.1
      rw [k0 _ (by omega)]
      exact hu k hk
  · obtain ⟨a1, a2, a3⟩ := h.2 u hun
    rw [hc u hun e, hr u hun e]
    refine ⟨a1, fun k hk => ?_, fun k hk => ?_⟩
    · have := (zin_z (a1.2.1.2.2 k hk).1).2.1
      rw [k0 _ (by omega)]
      exact a2 k hk
    · have := (zin_z (a1.2.2.1.2.2 k hk).1).2.1
      rw [k0 _ (by omega)]
      exact a3 k hk
theorem RelW_cg {n : Nat} {cw rw cw' rw' : Nat → Nat → Int32} (h : RelW n cw rw) (hc : ∀ u, u < n → cw' u = cw u) (hr : ∀ u, u < n → rw' u = rw u) : RelW n cw' rw' := by
  refine ⟨h.1, fun u hun => ?_⟩
  obtain ⟨a1, a2, a3⟩ := h.2 u hun
  rw [hc u hun, hr u hun]
  refine ⟨a1, fun k hk => ?_, fun k hk => ?_⟩
  · have := (zin_z (a1.2.1.2.2 k hk).1).2.1
    rw [hr _ (by omega)]
    exact a2 k hk
  · have := (zin_z (a1.2.2.1.2.2 k hk).1).2.1
    rw [hr _ (by omega)]
    exact a3 k hk
/-! parents: one more, one less, turned -/
theorem PS_add {u p q : Nat} {c r c' r' : Nat → Int32} (h : PS u c r) (hp : r 2 = nI p) (h4 : p < 4) (hq : q < u) (hu : u ≤ 12) (hc3 : c' 3 = nI (p + 1)) (hr2 : r' 2 = nI (p + 1)) (hci : c' (4 + p) = nI q) (hri : r' (3 + p) = nI q) (hc : ∀ k, k < p → c' (4 + k) = c (4 + k)) (hr : ∀ k, k < p → r' (3 + k) = r (3 + k)) : PS u c' r' := by
  refine ⟨by rw [hr2]; exact zin_n (by omega) (by omega), by rw [hc3, hr2], fun k hk => ?_⟩
  rw [hr2, zn_n (by omega)] at hk
  by_cases e : k = p
  · subst e
    rw [hci, hri]
    exact ⟨zin_n hq (by omega), rfl⟩
  · rw [hc k (by omega), hr k (by omega)]
    exact h.2.2 k (by rw [hp, zn_n (by omega)]; omega)
/-- the places k of the new row are the places f k of the old -/
theorem PS_map {u p p' : Nat} {c r c' r' : Nat → Int32} {f : Nat → Nat} (h : PS u c r) (hp : r 2 = nI p) (h4 : p ≤ 4) (h4' : p' ≤ 4) (hc3 : c' 3 = nI p') (hr2 : r' 2 = nI p') (hf : ∀ k, k < p' → f k < p) (hc : ∀ k, k < p' → c' (4 + k) = c (4 + f k)) (hr : ∀ k, k < p' → r' (3 + k) = r (3 + f k)) : PS u c' r' := by
  refine ⟨by rw [hr2]; exact zin_n (by omega) (by omega), by rw [hc3, hr2], fun k hk => ?_⟩
  rw [hr2, zn_n (by omega)] at hk
  rw [hc k hk, hr k hk]
  exact h.2.2 (f k) (by rw [hp, zn_n (by omega)]; exact hf k hk)
