/-! the class's small functions, read off -/
theorem pX5_placeOf {v0 n : Nat} {v1 : Int32} {mm : zM} (hn : gi mm 5 v0 1 = nI n) (h4 : n ≤ 4) : fX5_placeOf v0 v1 mm = some (zfx (zfd (fun k => gi mm 30 v0 k) v1 n)) := by
  unfold fX5_placeOf
  refine zfd_loop (by omega) ?_ (fun k hk => ?_)
  · simp only [fX5_placeOf_L2, hn, Int32.le_refl, if_true]
  · simp (disch := omega) only [fX5_placeOf_L2, hn, nIle, if_neg, zob_t _ (zin_n _ _), zn_n, nI_1]
theorem pX5_itemAt {v0 n : Nat} {v1 : Int32} {mm : zM} (hn : gi mm 5 v0 1 = nI n) (h4 : n ≤ 4) : fX5_itemAt v0 v1 mm = some (if zin v1 n = true then gi mm 30 v0 (zn v1) else -1) := by
  unfold fX5_itemAt
  by_cases h0 : v1 < 0
  · rw [if_pos h0, if_neg (fun q => zin_vp q (Or.inl h0))]
  · rw [if_neg h0]
    obtain ⟨j, hj, rfl⟩ := nI_of h0
    rw [hn]
    by_cases h1 : n ≤ j
    · rw [if_pos ((nIle (by omega) (by omega)).mpr h1), if_neg (fun q => by have := zin_z q; rw [zn_n hj] at this; omega)]
    · rw [if_neg (fun q => h1 ((nIle (by omega) (by omega)).mp q)), zob_t _ (zin_n (by omega) (by omega)), if_pos (zin_n (by omega) (by omega))]
theorem pX8_isUnit {w n : Nat} {v1 : Int32} {mm : zM} (hn : gi mm 8 w 1 = nI n) (h4 : n ≤ 12) : fX8_isUnit w v1 mm = some (if zin v1 n = true then 1 else 0) := by
  unfold fX8_isUnit
  by_cases h0 : v1 < 0
  · rw [if_pos h0, if_neg (fun q => zin_vp q (Or.inl h0))]
  · rw [if_neg h0]
    obtain ⟨j, hj, rfl⟩ := nI_of h0
    rw [hn]
    by_cases h1 : n ≤ j
    · rw [if_pos ((nIle (by omega) (by omega)).mpr h1), if_neg (fun q => by have := zin_z q; rw [zn_n hj] at this; omega)]
    · rw [if_neg (fun q => h1 ((nIle (by omega) (by omega)).mp q)), if_pos (zin_n (by omega) (by omega))]
theorem pX8_isType {w n : Nat} {v1 : Int32} {mm : zM} (hn : gi mm 8 w 1 = nI n) (h4 : n ≤ 12) : fX8_isType w v1 mm = some (if zin v1 n = true ∧ gi mm 7 (12 * w + zn v1) 0 = 0 then 1 else 0) := by
  unfold fX8_isType
  rw [pX8_isUnit hn h4, Option.bind_some]
  by_cases h : zin v1 n = true
  · obtain ⟨j, hj, rfl, hj2⟩ := zin_e h
    rw [if_pos h, if_neg (by decide), zob_t _ (zin_n (by omega) (by omega))]
    by_cases h2 : gi mm 7 (12 * w + zn (nI j)) 0 = 0
    · rw [if_pos h2, if_pos ⟨h, h2⟩]
    · rw [if_neg h2, if_neg (fun q => h2 q.2)]
  · rw [if_neg h, if_pos rfl, if_neg (fun q => h q.1)]
theorem pX8_isTrait {w n : Nat} {v1 : Int32} {mm : zM} (hn : gi mm 8 w 1 = nI n) (h4 : n ≤ 12) : fX8_isTrait w v1 mm = some (if zin v1 n = true ∧ ¬ gi mm 7 (12 * w + zn v1) 0 = 0 then 1 else 0) := by
  unfold fX8_isTrait
  rw [pX8_isUnit hn h4, Option.bind_some]
  by_cases h : zin v1 n = true
  · obtain ⟨j, hj, rfl, hj2⟩ := zin_e h
    rw [if_pos h, if_neg (by decide), zob_t _ (zin_n (by omega) (by omega))]
    by_cases h2 : gi mm 7 (12 * w + zn (nI j)) 0 = 0
    · rw [if_pos h2, if_neg (fun q => q.2 h2)]
    · rw [if_neg h2, if_pos ⟨h, h2⟩]
  · rw [if_neg h, if_pos rfl, if_neg (fun q => h q.1)]
theorem pX8_indexOf {w n : Nat} {v1 : Int32} {mm : zM} (hn : gi mm 8 w 1 = nI n) (h4 : n ≤ 12) : fX8_indexOf w v1 mm = some (zfx (zfd (fun u => gi mm 7 (12 * w + u) 1) v1 n)) := by
  unfold fX8_indexOf
  refine zfd_loop (by omega) ?_ (fun k hk => ?_)
  · simp only [fX8_indexOf_L2, hn, Int32.le_refl, if_true]
  · simp (disch := omega) only [fX8_indexOf_L2, hn, nIle, if_neg, zob_t _ (zin_n _ _), zn_n, nI_1]
theorem pX9_isLetter {v : Int32} {mm : zM} : fX9_isLetter v mm = some (if zin v 26 = true then 1 else 0) := by
  unfold fX9_isLetter
  by_cases h0 : v < 0
  · rw [if_pos h0, if_neg (fun q => zin_vp q (Or.inl h0))]
  · rw [if_neg h0]
    obtain ⟨j, hj, rfl⟩ := nI_of h0
    rw [show (26 : Int32) = nI 26 from rfl]
    by_cases h1 : 26 ≤ j
    · rw [if_pos ((nIle (by omega) (by omega)).mpr h1), if_neg (fun q => by have := zin_z q; rw [zn_n hj] at this; omega)]
    · rw [if_neg (fun q => h1 ((nIle (by omega) (by omega)).mp q)), if_pos (zin_n (by omega) (by omega))]
theorem pX7_tells {n m : Nat} {mm : zM} (hm : m < 26) : fX7_tells n (nI m) mm = some (if gi mm 32 n m = -1 then 0 else 1) := by
  unfold fX7_tells
  rw [zob_t _ (zin_n hm (by omega)), zn_n (by omega)]
  split <;> rfl
theorem pX7_requires {n m : Nat} {mm : zM} (hm : m < 26) : fX7_requires n (nI m) mm = some (if gi mm 32 n m = 0 then 1 else 0) := by
  unfold fX7_requires
  rw [zob_t _ (zin_n hm (by omega)), zn_n (by omega)]
  split <;> rfl
theorem pX7_hasBody {n m : Nat} {mm : zM} (hm : m < 26) : fX7_hasBody n (nI m) mm = some (if gi mm 32 n m ≤ 0 then 0 else 1) := by
  unfold fX7_hasBody
  rw [zob_t _ (zin_n hm (by omega)), zn_n (by omega)]
  split <;> rfl
theorem pX7_letterThere {n k m : Nat} {mm : zM} (hk : k < 4) (hm : m < 26) : fX7_letterThere n (nI k) (nI m) mm = some (gi mm 34 n (26 * k + m)) := by
  unfold fX7_letterThere
  rw [show nI k * 26 + nI m = nI (26 * k + m) by rw [show (26 : Int32) = nI 26 from rfl, pk_mul, nI_add, Nat.mul_comm], zob_t _ (zin_n (by omega) (by omega)), zn_n (by omega)]
theorem pX7_termAt {n k m : Nat} {mm : zM} (hk : k < 4) (hm : m < 26) : fX7_termAt n (nI m) (nI k) mm = some (gi mm 33 n (4 * m + k)) := by
  unfold fX7_termAt
  rw [show nI m * 4 + nI k = nI (4 * m + k) by rw [show (4 : Int32) = nI 4 from rfl, pk_mul, nI_add, Nat.mul_comm], zob_t _ (zin_n (by omega) (by omega)), zn_n (by omega)]
theorem pX7_addTerm {n m c : Nat} {x : Int32} {mm : zM} (hm : m < 26) (hc : gi mm 32 n m = nI c) (h4 : c < 4) : fX7_addTerm n (nI m) x mm = some (wi (wi mm 33 n (4 * m + c) x) 32 n m (nI (c + 1))) := by
  unfold fX7_addTerm
  rw [zob_t _ (zin_n hm (by omega)), zn_n (by omega), hc, if_neg (nI_pos (by omega)), show (4 : Int32) = nI 4 from rfl, if_neg (fun q => by have := (nIle (by omega) (by omega)).mp q; omega), pk_mul, nI_add, Nat.mul_comm, zob_t _ (zin_n (by omega) (by omega)), zob_t _ (zin_n hm (by omega)), zn_n (by omega), nI_1]
theorem pX7_require {n m : Nat} {mm : zM} (hm : m < 26) : fX7_require n (nI m) mm = some (wi (if gi mm 32 n m = -1 then wi mm 7 n 2 (gi mm 7 n 2 + 1) else mm) 32 n m 0) := by
  unfold fX7_require
  rw [pX7_tells hm, Option.bind_some]
  unfold fX7_require_J18
  by_cases h : gi mm 32 n m = -1
  · rw [if_pos h, if_pos rfl, zob_t _ (zin_n hm (by omega)), zn_n (by omega), if_pos h]
  · rw [if_neg h, if_neg (by decide), zob_t _ (zin_n hm (by omega)), zn_n (by omega), if_neg h]
theorem pX7_forget {n m : Nat} {mm : zM} (hm : m < 26) : fX7_forget n (nI m) mm = some (wi (if gi mm 32 n m = -1 then mm else wi mm 7 n 2 (gi mm 7 n 2 - 1)) 32 n m (-1)) := by
  unfold fX7_forget
  rw [pX7_tells hm, Option.bind_some]
  unfold fX7_forget_J18
  by_cases h : gi mm 32 n m = -1
  · rw [if_pos h, if_pos rfl, zob_t _ (zin_n hm (by omega)), zn_n (by omega), if_pos h]
  · rw [if_neg h, if_neg (by decide), zob_t _ (zin_n hm (by omega)), zn_n (by omega), if_neg h]
theorem pX5_add {v0 n : Nat} {x : Int32} {mm : zM} (hn : gi mm 5 v0 1 = nI n) (h4 : n < 4) : fX5_add v0 x mm = some (wi (wi mm 30 v0 n x) 5 v0 1 (nI (n + 1))) := by
  unfold fX5_add
  rw [hn, show (4 : Int32) = nI 4 from rfl, if_neg (fun q => by have := (nIle (by omega) (by omega)).mp q; omega), zob_t _ (zin_n h4 (by omega)), zn_n (by omega), gi_wi, if_neg (by omega), hn, nI_1]
