/-! the reference's small functions, read off -/
theorem l113 : (113 : Int32) = nI 113 := rfl
theorem l64 : (64 : Int32) = nI 64 := rfl
theorem l26 : (26 : Int32) = nI 26 := rfl
theorem l14 : (14 : Int32) = nI 14 := rfl
theorem l12 : (12 : Int32) = nI 12 := rfl
theorem l8 : (8 : Int32) = nI 8 := rfl
theorem l7 : (7 : Int32) = nI 7 := rfl
theorem l6 : (6 : Int32) = nI 6 := rfl
theorem l5 : (5 : Int32) = nI 5 := rfl
theorem l4 : (4 : Int32) = nI 4 := rfl
theorem l3 : (3 : Int32) = nI 3 := rfl
theorem l2 : (2 : Int32) = nI 2 := rfl
theorem l1 : (1 : Int32) = nI 1 := rfl
theorem l0 : (0 : Int32) = nI 0 := rfl
theorem l1357 : (1357 : Int32) = nI 1357 := rfl
theorem n1356 : zn 1356 = 1356 := zn_n (a := 1356) (by omega)
theorem zo {α : Type} {a n : Nat} (x : Option α) (h : a < n) (hn : n < 2147483648) : zob (zin (nI a) n) x = x := zob_t x (zin_n h hn)
theorem qIn {v : Int32} {n : Nat} {mm : zM} (h : n ≤ 20000) : fX10_in v 0 (nI n - 1) mm = some (if zin v n = true then 1 else 0) := by
  unfold fX10_in
  by_cases h0 : v < 0
  · rw [if_pos h0, if_neg (fun q => zin_vp q (Or.inl h0))]
  · rw [if_neg h0]
    obtain ⟨j, hj, rfl⟩ := nI_of h0
    have e : nI n - 1 < nI j ↔ n ≤ j := by
      rw [Int32.lt_iff_toInt_lt, show nI n - 1 = nI n - nI 1 from rfl, pk_sub_toInt (by omega) (by omega), nI_toInt hj]
      omega
    by_cases h1 : n ≤ j
    · rw [if_pos (e.mpr h1), if_neg (fun q => by have := zin_z q; rw [zn_n hj] at this; omega)]
    · rw [if_neg (fun q => h1 (e.mp q)), if_pos (zin_n (by omega) (by omega))]
theorem qIn26 {v : Int32} {mm : zM} : fX10_in v 0 25 mm = some (if zin v 26 = true then 1 else 0) := by
  rw [show (25 : Int32) = nI 26 - 1 by decide]
  exact qIn (by omega)
theorem qIn2 {v : Int32} {mm : zM} : fX10_in v 0 1 mm = some (if zin v 2 = true then 1 else 0) := by
  have := qIn (v := v) (n := 2) (mm := mm) (by omega)
  rw [show nI 2 - 1 = (1 : Int32) by decide] at this
  exact this
theorem qIn5 {v : Int32} {mm : zM} : fX10_in v 0 4 mm = some (if zin v 5 = true then 1 else 0) := by
  rw [show (4 : Int32) = nI 5 - 1 by decide]
  exact qIn (by omega)
theorem qIn1000 {v : Int32} {mm : zM} : fX10_in v 0 999 mm = some (if zin v 1000 = true then 1 else 0) := by
  rw [show (999 : Int32) = nI 1000 - 1 by decide]
  exact qIn (by omega)
theorem qIsUnit {v : Int32} {n : Nat} {mm : zM} (hn : gi mm 38 0 1356 = nI n) (h : n ≤ 12) : fX10_isUnit v mm = some (if zin v n = true then 1 else 0) := by
  unfold fX10_isUnit
  rw [n1356, hn, qIn (by omega), Option.bind_some]
  by_cases q : zin v n = true
  · rw [if_pos q]; rfl
  · rw [if_neg q]; rfl
theorem qIsTrait {u : Nat} {mm : zM} (hu : u < 12) : fX10_isTrait (nI u) mm = some (if gi mm 38 0 (113 * u) = 1 then 1 else 0) := by
  unfold fX10_isTrait
  rw [Int32.add_zero, l113, pk_mul, zo _ (by omega) (by omega), zn_n (by omega)]
  split <;> rfl
theorem qIsType {v : Int32} {n : Nat} {mm : zM} (hn : gi mm 38 0 1356 = nI n) (h : n ≤ 12) : fX10_isType v mm = some (if zin v n = true ∧ ¬ gi mm 38 0 (113 * zn v) = 1 then 1 else 0) := by
  unfold fX10_isType
  rw [qIsUnit hn h, Option.bind_some]
  by_cases q : zin v n = true
  · obtain ⟨j, hj, rfl, hj2⟩ := zin_e q
    rw [if_pos q, if_neg (by decide), qIsTrait (by omega), Option.bind_some, zn_n hj2]
    by_cases h2 : gi mm 38 0 (113 * j) = 1
    · rw [if_pos h2, if_neg (by decide), if_neg (fun z => z.2 h2)]
    · rw [if_neg h2, if_pos rfl, if_pos ⟨q, h2⟩]
  · rw [if_neg q, if_pos rfl, if_neg (fun z => q z.1)]
theorem qParents {u : Nat} {mm : zM} (hu : u < 12) : fX10_parents (nI u) mm = some (gi mm 38 0 (113 * u + 2)) := by
  unfold fX10_parents
  rw [l113, pk_mul, l2, nI_add, zo _ (by omega) (by omega), zn_n (by omega)]
theorem qUses {u : Nat} {mm : zM} (hu : u < 12) : fX10_uses (nI u) mm = some (gi mm 38 0 (113 * u + 7)) := by
  unfold fX10_uses
  rw [l113, pk_mul, l7, nI_add, zo _ (by omega) (by omega), zn_n (by omega)]
theorem qOwns {u : Nat} {mm : zM} (hu : u < 12) : fX10_owns (nI u) mm = some (gi mm 38 0 (113 * u + 64)) := by
  unfold fX10_owns
  rw [l113, pk_mul, l64, nI_add, zo _ (by omega) (by omega), zn_n (by omega)]
theorem qParentOf {u k : Nat} {mm : zM} (hu : u < 12) (hk : k < 110) : fX10_parentOf (nI u) (nI k) mm = some (gi mm 38 0 (113 * u + (3 + k))) := by
  unfold fX10_parentOf
  rw [l113, pk_mul, l2, nI_add, l1, nI_add, nI_add, zo _ (by omega) (by omega), zn_n (by omega), show 113 * u + 2 + 1 + k = 113 * u + (3 + k) by omega]
theorem qUseAt {u k : Nat} {mm : zM} : fX10_useAt (nI u) (nI k) mm = some (nI (113 * u + (8 + 14 * k))) := by
  unfold fX10_useAt
  rw [l113, pk_mul, l7, nI_add, l1, nI_add, l14, pk_mul, nI_add, show 113 * u + 7 + 1 + 14 * k = 113 * u + (8 + 14 * k) by omega]
theorem qOwnAt {u k : Nat} {mm : zM} : fX10_ownAt (nI u) (nI k) mm = some (nI (113 * u + (65 + 6 * k))) := by
  unfold fX10_ownAt
  rw [l113, pk_mul, l64, nI_add, l1, nI_add, l6, pk_mul, nI_add, show 113 * u + 64 + 1 + 6 * k = 113 * u + (65 + 6 * k) by omega]
theorem qPlaceOf {u n : Nat} {v : Int32} {mm : zM} (hu : u < 12) (hn : gi mm 38 0 (113 * u + 2) = nI n) (h4 : n ≤ 4) : fX10_placeOf (nI u) v mm = some (zfx (zfd (fun k => gi mm 38 0 (113 * u + (3 + k))) v n)) := by
  unfold fX10_placeOf
  refine zfd_loop (by omega) ?_ (fun k hk => ?_)
  · simp only [fX10_placeOf_L2, qParents hu, Option.bind_some, hn, Int32.le_refl, if_true]
  · unfold fX10_placeOf_L2
    rw [qParents hu, Option.bind_some, hn, if_neg (fun q => by have := (nIle (by omega) (by omega)).mp q; omega), qParentOf hu (by omega), Option.bind_some, nI_1]
theorem qUseOf {u n : Nat} {v : Int32} {mm : zM} (hu : u < 12) (hn : gi mm 38 0 (113 * u + 7) = nI n) (h4 : n ≤ 4) : fX10_useOf (nI u) v mm = some (zfx (zfd (fun k => gi mm 38 0 (113 * u + (8 + 14 * k))) v n)) := by
  unfold fX10_useOf
  refine zfd_loop (by omega) ?_ (fun k hk => ?_)
  · simp only [fX10_useOf_L2, qUses hu, Option.bind_some, hn, Int32.le_refl, if_true]
  · unfold fX10_useOf_L2
    rw [qUses hu, Option.bind_some, hn, if_neg (fun q => by have := (nIle (by omega) (by omega)).mp q; omega), qUseAt, Option.bind_some, zo _ (by omega) (by omega), zn_n (by omega), nI_1]
theorem qOwnOf {u n : Nat} {v : Int32} {mm : zM} (hu : u < 12) (hn : gi mm 38 0 (113 * u + 64) = nI n) (h4 : n ≤ 8) : fX10_ownOf (nI u) v mm = some (zfx (zfd (fun k => gi mm 38 0 (113 * u + (65 + 6 * k))) v n)) := by
  unfold fX10_ownOf
  refine zfd_loop (by omega) ?_ (fun k hk => ?_)
  · simp only [fX10_ownOf_L2, qOwns hu, Option.bind_some, hn, Int32.le_refl, if_true]
  · unfold fX10_ownOf_L2
    rw [qOwns hu, Option.bind_some, hn, if_neg (fun q => by have := (nIle (by omega) (by omega)).mp q; omega), qOwnAt, Option.bind_some, zo _ (by omega) (by omega), zn_n (by omega), nI_1]
theorem qFind {n : Nat} {v : Int32} {mm : zM} (hn : gi mm 38 0 1356 = nI n) (h4 : n ≤ 12) : fX10_find v mm = some (zfx (zfd (fun u => gi mm 38 0 (113 * u + 1)) v n)) := by
  unfold fX10_find
  refine zfd_loop (by omega) ?_ (fun k hk => ?_)
  · simp only [fX10_find_L2, n1356, hn, Int32.le_refl, if_true]
  · unfold fX10_find_L2
    rw [n1356, hn, if_neg (fun q => by have := (nIle (by omega) (by omega)).mp q; omega), l113, pk_mul, l1, nI_add, zo _ (by omega) (by omega), zn_n (by omega), nI_add]
theorem qUnitOf {n : Nat} {v : Int32} {mm : zM} (hn : gi mm 39 0 1356 = nI n) (h4 : n ≤ 12) : fX10_unitOf v mm = some (zfx (zfd (fun u => gi mm 39 0 (113 * u + 1)) v n)) := by
  unfold fX10_unitOf
  refine zfd_loop (by omega) ?_ (fun k hk => ?_)
  · simp only [fX10_unitOf_L2, n1356, hn, Int32.le_refl, if_true]
  · unfold fX10_unitOf_L2
    rw [n1356, hn, if_neg (fun q => by have := (nIle (by omega) (by omega)).mp q; omega), l113, pk_mul, l1, nI_add, zo _ (by omega) (by omega), zn_n (by omega), nI_add]
/-- a loop that looks for the first place, told by its cell -/
theorem zfd_loop2 {L : Int32 → Option (Int32 ⊕ (Unit ⊕ Int32))} {f : Nat → Int32} {g : Nat → Int32} {x : Int32} {n : Nat} (hn : n < 20000) (hend : L (nI n) = some (.inr (.inl ()))) (hgo : ∀ k, k < n → L (nI k) = if f k = x then some (.inr (.inr (g k))) else some (.inl (nI (k + 1)))) : (zloop L zF 0).bind (fun o => zcase o (fun _ => some (-1 : Int32)) (fun r => some r)) = some (match zfd f x n with | none => -1 | some k => g k) := by
  have h : ok (zloop L zF 0) (fun o => zcase o (fun _ => some (-1 : Int32)) (fun r => some r) = some (match zfd f x n with | none => -1 | some k => g k)) := by
    refine ok_for (fun i s => s = nI i ∧ ∀ k, k < i → f k ≠ x) (a := 0) (b := n) (Nat.zero_le n) hn ⟨rfl, fun k hk => by omega⟩ (fun i s _ hi hI => ?_) (fun s hI => ?_)
    · obtain ⟨rfl, h2⟩ := hI
      rw [hgo i hi]
      by_cases hx : f i = x
      · rw [if_pos hx]
        exact ok_some (Or.inr ⟨_, rfl, by rw [zfd_is hi hx h2]; rfl⟩)
      · rw [if_neg hx]
        exact ok_some (Or.inl ⟨_, rfl, rfl, fun k hk => by
          by_cases hk2 : k = i
          · subst hk2; exact hx
          · exact h2 k (by omega)⟩)
    · obtain ⟨rfl, h2⟩ := hI
      rw [hend]
      exact ok_some ⟨_, rfl, by rw [zfd_no h2]; rfl⟩
  obtain ⟨o, e, h⟩ := h
  rw [e]
  exact h
theorem qChangeAt {u k c : Nat} {v : Int32} {mm : zM} (hu : u < 12) (hk : k < 4) (hc : gi mm 38 0 (113 * u + (9 + 14 * k)) = nI c) (h6 : c ≤ 6) : fX10_changeAt (nI u) (nI k) v mm = some (match zfd (fun i => gi mm 38 0 (113 * u + (10 + 14 * k + 2 * i))) v c with | none => -1 | some i => nI (113 * u + (10 + 14 * k + 2 * i))) := by
  unfold fX10_changeAt
  rw [qUseAt, Option.bind_some]
  refine zfd_loop2 (by omega) ?_ (fun i hi => ?_)
  · unfold fX10_changeAt_L10
    rw [nI_1, zo _ (by omega) (by omega), zn_n (by omega), show 113 * u + (8 + 14 * k) + 1 = 113 * u + (9 + 14 * k) by omega, hc, if_pos (Int32.le_refl _)]
  · unfold fX10_changeAt_L10
    rw [nI_1, zo _ (by omega) (by omega), zn_n (by omega), show 113 * u + (8 + 14 * k) + 1 = 113 * u + (9 + 14 * k) by omega, hc, if_neg (fun q => by have := (nIle (by omega) (by omega)).mp q; omega), l2, nI_add, pk_mul, nI_add, zo _ (by omega) (by omega), zn_n (by omega), nI_1, show 113 * u + (8 + 14 * k) + 2 + 2 * i = 113 * u + (10 + 14 * k + 2 * i) by omega]
/-- what a letter becomes in a use, read off a unit's row -/
def becR (r : Nat → Int32) (k : Nat) (m : Nat) : Int32 := match zfd (fun i => r (10 + 14 * k + 2 * i)) (nI m) (zn (r (9 + 14 * k))) with
  | none => nI m
  | some i => r (11 + 14 * k + 2 * i)
theorem qBecomesIn {u k c m : Nat} {mm : zM} (hu : u < 12) (hk : k < 4) (hc : gi mm 38 0 (113 * u + (9 + 14 * k)) = nI c) (h6 : c ≤ 6) : fX10_becomesIn (nI u) (nI k) (nI m) mm = some (becR (fun s => gi mm 38 0 (113 * u + s)) k m) := by
  unfold fX10_becomesIn
  rw [qChangeAt hu hk hc h6, Option.bind_some]
  unfold becR
  show _ = some (match zfd (fun i => gi mm 38 0 (113 * u + (10 + 14 * k + 2 * i))) (nI m) (zn (gi mm 38 0 (113 * u + (9 + 14 * k)))) with | none => nI m | some i => gi mm 38 0 (113 * u + (11 + 14 * k + 2 * i)))
  rw [hc, zn_n (by omega)]
  cases h : zfd (fun i => gi mm 38 0 (113 * u + (10 + 14 * k + 2 * i))) (nI m) c with
  | none => show (if (-1 : Int32) = -1 then _ else _) = _; rw [if_pos rfl]
  | some i =>
    have hi := (zfd_some h).1
    show (if nI (113 * u + (10 + 14 * k + 2 * i)) = -1 then _ else _) = _
    rw [if_neg (nIm1 (by omega)), nI_1, zo _ (by omega) (by omega), zn_n (by omega), show 113 * u + (10 + 14 * k + 2 * i) + 1 = 113 * u + (11 + 14 * k + 2 * i) by omega]
