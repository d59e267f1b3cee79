/-! how many bits -/
def sm (g : Nat → Nat) : Nat → Nat
  | 0 => 0
  | n + 1 => sm g n + g n
def pc (A : Nat) : Nat := sm (fun v => if A.testBit v = true then 1 else 0) 12
def bcI (v0 : Int32) : Int32 := (match fJ6_bitCount v0 (fun _ _ _ => 0, (fun _ => 0, fun _ _ => none)) with | some x => x | none => 0)
theorem bc_tab : ∀ i, i < 64 → ∀ j, j < 64 → bcI (nI (64 * i + j)) = nI (pc (64 * i + j)) := by decide +kernel
theorem bc {S : Nat} {mm : zM} (hS : S < 2 ^ 12) : fJ6_bitCount (nI S) mm = some (nI (pc S)) := by
  have h := bc_tab (S / 64) (by omega) (S % 64) (by omega)
  rw [show 64 * (S / 64) + S % 64 = S by omega] at h
  unfold bcI at h
  unfold fJ6_bitCount at h ⊢
  exact congrArg some h
theorem sm_le {g g' : Nat → Nat} : ∀ {n : Nat}, (∀ v, v < n → g v ≤ g' v) → sm g n ≤ sm g' n
  | 0, _ => Nat.le_refl _
  | n + 1, h => by
    have h1 := sm_le (n := n) (fun v hv => h v (by omega))
    have h2 := h n (by omega)
    show sm g n + g n ≤ sm g' n + g' n
    omega
theorem sm_cg {g g' : Nat → Nat} : ∀ {n : Nat}, (∀ v, v < n → g v = g' v) → sm g n = sm g' n
  | 0, _ => rfl
  | n + 1, h => by
    show sm g n + g n = sm g' n + g' n
    rw [sm_cg (n := n) (fun v hv => h v (by omega)), h n (by omega)]
theorem sm_up {g g' : Nat → Nat} {t δ : Nat} : ∀ {n : Nat}, t < n → (∀ v, v < n → v ≠ t → g' v = g v) → g' t = g t + δ → sm g' n = sm g n + δ
  | 0, h, _, _ => by omega
  | n + 1, h, h1, h2 => by
    show sm g' n + g' n = sm g n + g n + δ
    by_cases e : t = n
    · subst e
      rw [sm_cg (n := t) (g := g') (g' := g) (fun v hv => h1 v (by omega) (by omega)), h2]
      omega
    · rw [sm_up (n := n) (by omega) (fun v hv => h1 v (by omega)) h2, h1 n (by omega) (fun q => e q.symm)]
      omega
theorem sm_0 {g : Nat → Nat} : ∀ {n : Nat}, (∀ v, v < n → g v = 0) → sm g n = 0
  | 0, _ => rfl
  | n + 1, h => by
    show sm g n + g n = 0
    rw [sm_0 (n := n) (fun v hv => h v (by omega)), h n (by omega)]
theorem sm_pos {g : Nat → Nat} : ∀ {n : Nat}, sm g n ≠ 0 → ∃ v, v < n ∧ g v ≠ 0
  | 0, h => absurd rfl h
  | n + 1, h => by
    by_cases q : g n = 0
    · have : sm g n ≠ 0 := fun z => h (by show sm g n + g n = 0; omega)
      obtain ⟨v, v1, v2⟩ := sm_pos this
      exact ⟨v, by omega, v2⟩
    · exact ⟨n, by omega, q⟩
theorem sm_ge {g : Nat → Nat} {t : Nat} : ∀ {n : Nat}, t < n → g t ≤ sm g n
  | 0, h => by omega
  | n + 1, h => by
    show g t ≤ sm g n + g n
    by_cases e : t = n
    · subst e; omega
    · have := sm_ge (g := g) (n := n) (t := t) (by omega)
      omega
theorem sm_if {P : Nat → Bool} {x : Nat} : ∀ {n : Nat}, sm (fun v => if P v = true then x else 0) n = sm (fun v => if P v = true then 1 else 0) n * x
  | 0 => by simp [sm]
  | n + 1 => by
    show sm (fun v => if P v = true then x else 0) n + (if P n = true then x else 0) = (sm (fun v => if P v = true then 1 else 0) n + (if P n = true then 1 else 0)) * x
    rw [sm_if (n := n), Nat.add_mul]
    by_cases q : P n = true
    · rw [if_pos q, if_pos q, Nat.one_mul]
    · rw [if_neg q, if_neg q, Nat.zero_mul]
/-! sets without one, with one -/
theorem d_tb {A v : Nat} (hA : A < 2 ^ 12) (hv : v < 12) (i : Nat) : (dif A (2 ^ v)).testBit i = (A.testBit i && !decide (v = i)) := by
  rw [dif_tb (Nat.lt_of_lt_of_le hA (by decide)) (Nat.lt_of_lt_of_le (p12 hv) (by decide)), Nat.testBit_two_pow]
theorem d_lt {A v : Nat} (hA : A < 2 ^ 12) (hv : v < 12) (h : A.testBit v = true) : dif A (2 ^ v) < A := by
  have h1 : dif A (2 ^ v) ≤ A := dif_le
  have h2 : dif A (2 ^ v) ≠ A := fun q => by
    have := d_tb hA hv v
    rw [q, h] at this
    simp at this
  omega
theorem d_or {A v : Nat} (hA : A < 2 ^ 12) (hv : v < 12) (h : A.testBit v = false) : dif (A ||| 2 ^ v) (2 ^ v) = A := by
  apply Nat.eq_of_testBit_eq
  intro i
  rw [d_tb (or_lt hA (p12 hv)) hv, tb_set]
  by_cases e : v = i
  · subst e; simp [h]
  · simp [e]
theorem or_d {A v : Nat} (hA : A < 2 ^ 12) (hv : v < 12) (h : A.testBit v = true) : dif A (2 ^ v) ||| 2 ^ v = A := by
  apply Nat.eq_of_testBit_eq
  intro i
  rw [tb_set, d_tb hA hv]
  by_cases e : v = i
  · subst e; simp [h]
  · simp [e]
/-- what is in T is in B -/
theorem dif0 {T B : Nat} (hT : T < 2 ^ 12) (hB : B < 2 ^ 12) : dif T B = 0 ↔ ∀ v, T.testBit v = true → B.testBit v = true := by
  have l31 : (2 : Nat) ^ 12 ≤ 2 ^ 31 := by decide
  constructor
  · intro h v hv
    have := dif_tb (b := T) (s := B) (by omega) (by omega) v
    rw [h, hv] at this
    simp at this
    exact this
  · intro h
    apply Nat.eq_of_testBit_eq
    intro i
    rw [dif_tb (by omega) (by omega)]
    by_cases q : T.testBit i = true
    · simp [q, h i q]
    · simp [q]
theorem pc_d {A v : Nat} (hA : A < 2 ^ 12) (hv : v < 12) (h : A.testBit v = true) : pc (dif A (2 ^ v)) + 1 = pc A := by
  unfold pc
  refine (sm_up (t := v) (δ := 1) hv (fun i _ hne => ?_) ?_).symm
  · rw [d_tb hA hv]
    have : decide (v = i) = false := by simp; omega
    rw [this]
    simp
  · rw [d_tb hA hv, h]
    simp
theorem pc_0 {A : Nat} (hA : A < 2 ^ 12) (h : pc A = 0) : A = 0 := by
  apply Nat.eq_of_testBit_eq
  intro i
  by_cases hi : i < 12
  · have := sm_ge (g := fun v => if A.testBit v = true then 1 else 0) hi
    unfold pc at h
    rw [h] at this
    by_cases q : A.testBit i = true
    · simp [q] at this
    · simp [q]
  · rw [Nat.testBit_lt_two_pow (Nat.lt_of_lt_of_le hA (Nat.pow_le_pow_right (by decide) (by omega)))]
    simp
theorem pc_12 (A : Nat) : pc A ≤ 12 := by
  have : pc A ≤ sm (fun _ => 1) 12 := sm_le (fun v _ => by split <;> omega)
  have e : sm (fun _ => 1) 12 = 12 := by decide
  omega
