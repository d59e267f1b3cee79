/-! bits (fa_and, fa_or begun from the kit's law NUMBERS.to-paste) -/
theorem fa_and (a b : Nat) : nI a &&& nI b = nI (a &&& b) := by
  apply Int32.toBitVec_inj.1
  show BitVec.ofNat 32 a &&& BitVec.ofNat 32 b = BitVec.ofNat 32 (a &&& b)
  apply BitVec.eq_of_getLsbD_eq
  intro i hi
  simp [hi]
theorem fa_or (a b : Nat) : nI a ||| nI b = nI (a ||| b) := by
  apply Int32.toBitVec_inj.1
  show BitVec.ofNat 32 a ||| BitVec.ofNat 32 b = BitVec.ofNat 32 (a ||| b)
  apply BitVec.eq_of_getLsbD_eq
  intro i hi
  simp [hi]
theorem sm32 : ∀ t, t < 31 → ((nI t).toBitVec.smod 32).toNat = t := by decide
theorem m31 {t : Nat} (ht : t < 31) : nI t &&& 31 = nI t := by
  rw [show (31 : Int32) = nI 31 from rfl, fa_and, show t &&& 31 = t % 2 ^ 5 from Nat.and_two_pow_sub_one_eq_mod t 5, Nat.mod_eq_of_lt (by omega)]
theorem sh1 {t : Nat} (ht : t < 31) : (1 : Int32) <<< (nI t &&& 31) = nI (2 ^ t) := by
  have h2 : (2 : Nat) ^ t < 2 ^ 31 := Nat.pow_lt_pow_right (by decide) ht
  rw [m31 ht, l1, pk_shlN (nI t) t (sm32 t ht) (by omega), Nat.one_mul]
theorem set1 {S t : Nat} (ht : t < 31) : nI S ||| 1 <<< (nI t &&& 31) = nI (S ||| 2 ^ t) := by rw [sh1 ht, fa_or]
theorem bit1 {S t : Nat} (hS : S < 2 ^ 31) (ht : t < 31) : nI S >>> (nI t &&& 31) &&& 1 = if S.testBit t = true then 1 else 0 := by
  rw [m31 ht, pk_shrN hS (nI t) t (sm32 t ht), l1, fa_and, Nat.and_one_is_mod, Nat.testBit_eq_decide_div_mod_eq]
  have h := Nat.mod_two_eq_zero_or_one (S / 2 ^ t)
  rcases h with h | h <;> rw [h] <;> decide
theorem has_c {S t : Nat} {mm : zM} (hS : S < 2 ^ 31) (ht : t < 31) : fX9_hasBit (nI S) (nI t) mm = some (if S.testBit t = true then 1 else 0) := by
  unfold fX9_hasBit
  rw [bit1 hS ht]
  by_cases h : S.testBit t = true
  · rw [if_pos h, if_neg n10]
  · rw [if_neg h, if_pos rfl]
theorem has_r {S t : Nat} {mm : zM} (hS : S < 2 ^ 31) (ht : t < 31) : fX10_has (nI S) (nI t) mm = some (if S.testBit t = true then 1 else 0) := by
  unfold fX10_has
  rw [bit1 hS ht]
  by_cases h : S.testBit t = true
  · rw [if_pos h, if_pos rfl]
  · rw [if_neg h, if_neg (by decide)]
theorem tb_set (n j i : Nat) : (n ||| 2 ^ j).testBit i = (n.testBit i || decide (j = i)) := by
  rw [Nat.testBit_or, Nat.testBit_two_pow]
theorem or_lt {a b k : Nat} (ha : a < 2 ^ k) (hb : b < 2 ^ k) : a ||| b < 2 ^ k := Nat.or_lt_two_pow ha hb
theorem p12 {t : Nat} (ht : t < 12) : (2 : Nat) ^ t < 2 ^ 12 := Nat.pow_lt_pow_right (by decide) ht
/-- different numbers below u are u at most -/
theorem pig : ∀ (u m : Nat) (f : Nat → Nat), (∀ i, i < m → f i < u) → (∀ i j, i < j → j < m → f i ≠ f j) → m ≤ u
  | 0, m, f, h1, _ => by
    by_cases h : m = 0
    · omega
    · have := h1 0 (by omega)
      omega
  | u + 1, m, f, h1, h2 => by
    by_cases h : ∃ i, i < m ∧ f i = u
    · obtain ⟨i, hi, e⟩ := h
      have := pig u (m - 1) (fun j => if j < i then f j else f (j + 1)) (fun j hj => by
        by_cases q : j < i
        · rw [if_pos q]
          have a1 := h1 j (by omega)
          have a2 := h2 j i q hi
          omega
        · rw [if_neg q]
          have a1 := h1 (j + 1) (by omega)
          have a2 := h2 i (j + 1) (by omega) (by omega)
          omega) (fun a b hab hb => by
        by_cases q1 : a < i
        · rw [if_pos q1]
          by_cases q2 : b < i
          · rw [if_pos q2]; exact h2 a b hab (by omega)
          · rw [if_neg q2]; exact h2 a (b + 1) (by omega) (by omega)
        · rw [if_neg q1, if_neg (by omega)]; exact h2 (a + 1) (b + 1) (by omega) (by omega))
      omega
    · have := pig u m f (fun i hi => by
        have a1 := h1 i hi
        have a2 : f i ≠ u := fun q => h ⟨i, hi, q⟩
        omega) h2
      omega
