/-! ways, as numbers -/
def Wf (K : Nat → Nat → Bool) : Nat → Nat → Nat
  | 0, _ => 0
  | f + 1, A => if A = 0 then 1 else sm (fun v => if (A.testBit v && K v (dif A (2 ^ v))) = true then Wf K f (dif A (2 ^ v)) else 0) 12
def Wy (K : Nat → Nat → Bool) (A : Nat) : Nat := Wf K (A + 1) A
theorem Wf_any (K : Nat → Nat → Bool) : ∀ (N A f g : Nat), A ≤ N → A < 2 ^ 12 → A < f → A < g → Wf K f A = Wf K g A
  | N, A, 0, g, _, _, h, _ => by omega
  | N, A, f + 1, 0, _, _, _, h => by omega
  | 0, A, f + 1, g + 1, h, _, _, _ => by
    have : A = 0 := by omega
    subst this
    rfl
  | N + 1, A, f + 1, g + 1, h, hA, hf, hg => by
    unfold Wf
    by_cases z : A = 0
    · rw [if_pos z, if_pos z]
    · rw [if_neg z, if_neg z]
      refine sm_cg (fun v hv => ?_)
      by_cases q : (A.testBit v && K v (dif A (2 ^ v))) = true
      · rw [if_pos q, if_pos q]
        have := d_lt hA hv (by simp at q; exact q.1)
        exact Wf_any K N _ f g (by omega) (by omega) (by omega) (by omega)
      · rw [if_neg q, if_neg q]
theorem Wy_e {K : Nat → Nat → Bool} {A : Nat} (hA : A < 2 ^ 12) (h0 : A ≠ 0) : Wy K A = sm (fun v => if (A.testBit v && K v (dif A (2 ^ v))) = true then Wy K (dif A (2 ^ v)) else 0) 12 := by
  show Wf K (A + 1) A = _
  unfold Wf
  rw [if_neg h0]
  refine sm_cg (fun v hv => ?_)
  by_cases q : (A.testBit v && K v (dif A (2 ^ v))) = true
  · rw [if_pos q, if_pos q]
    have := d_lt hA hv (by simp at q; exact q.1)
    exact Wf_any K A _ A _ (by omega) (by omega) (by omega) (by omega)
  · rw [if_neg q, if_neg q]
theorem Wy_0 {K : Nat → Nat → Bool} : Wy K 0 = 1 := rfl
def fac : Nat → Nat
  | 0 => 1
  | n + 1 => (n + 1) * fac n
theorem fac_mono : ∀ n m, n ≤ m → fac n ≤ fac m
  | n, 0, h => by
    have : n = 0 := by omega
    rw [this]
    exact Nat.le_refl _
  | n, m + 1, h => by
    by_cases e : n = m + 1
    · rw [e]; exact Nat.le_refl _
    · have := fac_mono n m (by omega)
      show fac n ≤ (m + 1) * fac m
      have : fac m ≤ (m + 1) * fac m := Nat.le_mul_of_pos_left _ (by omega)
      omega
theorem Wy_le {K : Nat → Nat → Bool} : ∀ (N A : Nat), A ≤ N → A < 2 ^ 12 → Wy K A ≤ fac (pc A)
  | 0, A, h, _ => by
    have : A = 0 := by omega
    subst this
    rw [Wy_0]
    decide
  | N + 1, A, h, hA => by
    by_cases z : A = 0
    · subst z
      rw [Wy_0]
      decide
    · rw [Wy_e hA z]
      have hp : pc A ≠ 0 := fun q => z (pc_0 hA q)
      have h1 : sm (fun v => if (A.testBit v && K v (dif A (2 ^ v))) = true then Wy K (dif A (2 ^ v)) else 0) 12 ≤ sm (fun v => if A.testBit v = true then fac (pc A - 1) else 0) 12 := sm_le (fun v hv => by
        by_cases q : (A.testBit v && K v (dif A (2 ^ v))) = true
        · have q1 : A.testBit v = true := by simp at q; exact q.1
          rw [if_pos q, if_pos q1]
          have e1 := d_lt hA hv q1
          have e2 := pc_d hA hv q1
          have := Wy_le (K := K) N (dif A (2 ^ v)) (by omega) (by omega)
          rw [show pc A - 1 = pc (dif A (2 ^ v)) by omega]
          exact this
        · rw [if_neg q]; exact Nat.zero_le _)
      rw [sm_if (P := fun v => A.testBit v)] at h1
      have h2 : pc A * fac (pc A - 1) = fac (pc A) := by
        obtain ⟨k, hk⟩ : ∃ k, pc A = k + 1 := ⟨pc A - 1, by omega⟩
        rw [hk]
        rfl
      unfold pc at h2 ⊢
      unfold pc at h1
      rw [h2] at h1
      exact h1
theorem Wy_lt {K : Nat → Nat → Bool} {A : Nat} (hA : A < 2 ^ 12) : Wy K A < 2147483648 := by
  have h1 := Wy_le (K := K) A A (Nat.le_refl _) hA
  have h2 := fac_mono (pc A) 12 (pc_12 A)
  have h3 : fac 12 = 479001600 := by decide
  omega
/-- who may come last: all that must stand ahead is there -/
def Kb (T : Nat → Nat) (v B : Nat) : Bool := dif (T v) B == 0
theorem Kb_t {T : Nat → Nat} {v B : Nat} (hT : T v < 2 ^ 12) (hB : B < 2 ^ 12) : Kb T v B = true ↔ ∀ y, (T v).testBit y = true → B.testBit y = true := by
  unfold Kb
  rw [beq_iff_eq, dif0 hT hB]
section WY
variable {A T : Nat → Nat} {S : Nat}
def dcl (A : Nat → Nat) (B : Nat) : Prop := ∀ y, B.testBit y = true → ∀ v, (A y).testBit v = true → B.testBit v = true
/-- T is A closed, all in S -/
def AT (A T : Nat → Nat) (S : Nat) : Prop := S < 2 ^ 12 ∧ (∀ y, y < 12 → A y < 2 ^ 12 ∧ T y < 2 ^ 12) ∧ (∀ y v, y < 12 → ((T y).testBit v = true ↔ TCl (fun a b => a < 12 ∧ (A a).testBit b = true) y v)) ∧ ∀ y v, y < 12 → (A y).testBit v = true → S.testBit y = true ∧ S.testBit v = true
theorem AT_sub {y v : Nat} (h : AT A T S) (hy : y < 12) (hv : (A y).testBit v = true) : (T y).testBit v = true := (h.2.2.1 y v hy).mpr (TCl_b ⟨hy, hv⟩)
theorem AT_cl {y v : Nat} {B : Nat} (h : AT A T S) (hB : dcl A B) (hy12 : y < 12) (hy : B.testBit y = true) (hv : (T y).testBit v = true) : B.testBit v = true := by
  have := (h.2.2.1 y v hy12).mp hv (fun a b => B.testBit a = true → B.testBit b = true) (fun a b hab q => hB a q b hab.2) (fun a b c h1 h2 q => h2 (h1 q))
  exact this hy
theorem AT_cl2 {y v : Nat} {B : Nat} (h : AT A T S) (hB : dcl A B) (hy12 : y < 12) (hy : ∀ z, (A y).testBit z = true → B.testBit z = true) (hv : (T y).testBit v = true) : B.testBit v = true := by
  have := (h.2.2.1 y v hy12).mp hv (fun a b => (a = y ∨ B.testBit a = true) → B.testBit b = true) (fun a b hab q => by
    rcases q with q | q
    · subst q; exact hy b hab.2
    · exact hB a q b hab.2) (fun a b c h1 h2 q => h2 (Or.inr (h1 q)))
  exact this (Or.inl rfl)
theorem AT_tr {y z v : Nat} (h : AT A T S) (hy : y < 12) (h1 : (T y).testBit z = true) (h2 : (T z).testBit v = true) : (T y).testBit v = true := by
  have hz := tb12 (h.2.1 y hy).2 h1
  exact (h.2.2.1 y v hy).mpr (TCl_t ((h.2.2.1 y z hy).mp h1) ((h.2.2.1 z v hz).mp h2))
theorem AT_S {y v : Nat} (h : AT A T S) (hy : y < 12) (hv : (T y).testBit v = true) : S.testBit y = true ∧ S.testBit v = true := (h.2.2.1 y v hy).mp hv (fun a b => S.testBit a = true ∧ S.testBit b = true) (fun a b hab => h.2.2.2 a b hab.1 hab.2) (fun a b c h1 h2 => ⟨h1.1, h2.2⟩)
theorem d_in {B v i : Nat} (hB : B < 2 ^ 12) (hv : v < 12) : (dif B (2 ^ v)).testBit i = true ↔ (B.testBit i = true ∧ i ≠ v) := by
  rw [d_tb hB hv]
  by_cases e : v = i
  · subst e; simp
  · simp [e]
    intro _
    omega
/-- ways of a set: then it is closed, and nobody stands ahead of himself -/
theorem ways_cl (h : AT A T S) {K : Nat → Nat → Bool} (hK : ∀ v B, v < 12 → B < 2 ^ 12 → K v B = true → ∀ y, (A v).testBit y = true → B.testBit y = true) : ∀ (N B : Nat), B ≤ N → B < 2 ^ 12 → Wy K B ≠ 0 → dcl A B ∧ ∀ y, B.testBit y = true → ¬ (T y).testBit y = true
  | N, 0, _, _, _ => ⟨fun y hy => by simp at hy, fun y hy => by simp at hy⟩
  | 0, B + 1, hN, _, _ => by omega
  | N + 1, B + 1, hN, hB, hw => by
    rw [Wy_e hB (by omega)] at hw
    obtain ⟨v, v1, v2⟩ := sm_pos hw
    by_cases q : ((B + 1).testBit v && K v (dif (B + 1) (2 ^ v))) = true
    · rw [if_pos q] at v2
      rw [Bool.and_eq_true] at q
      have lt := d_lt hB v1 q.1
      obtain ⟨c1, c2⟩ := ways_cl h hK N _ (by omega) (by omega) v2
      have kA := hK v _ v1 (by omega) q.2
      refine ⟨fun y hy z hz => ?_, fun y hy hc => ?_⟩
      · by_cases e : y = v
        · subst e
          exact ((d_in hB v1).mp (kA z hz)).1
        · exact ((d_in hB v1).mp (c1 y ((d_in hB v1).mpr ⟨hy, e⟩) z hz)).1
      · by_cases e : y = v
        · subst e
          have := AT_cl2 h c1 v1 kA hc
          exact ((d_in hB v1).mp this).2 rfl
        · exact c2 y ((d_in hB v1).mpr ⟨hy, e⟩) hc
    · rw [if_neg q] at v2
      exact absurd rfl v2
theorem K_A (h : AT A T S) : ∀ v B, v < 12 → B < 2 ^ 12 → Kb A v B = true → ∀ y, (A v).testBit y = true → B.testBit y = true := fun v B hv hB hk y hy => (Kb_t (h.2.1 v hv).1 hB).mp hk y hy
theorem K_T (h : AT A T S) : ∀ v B, v < 12 → B < 2 ^ 12 → Kb T v B = true → ∀ y, (A v).testBit y = true → B.testBit y = true := fun v B hv hB hk y hy => (Kb_t (h.2.1 v hv).2 hB).mp hk y (AT_sub h hv hy)
/-- where nobody stands ahead of himself both count alike -/
theorem ways_eq (h : AT A T S) (ha : ∀ y, y < 12 → ¬ (T y).testBit y = true) : ∀ (N B : Nat), B ≤ N → B < 2 ^ 12 → Wy (Kb A) B = Wy (Kb T) B
  | N, 0, _, _ => rfl
  | 0, B + 1, hN, _ => by omega
  | N + 1, B + 1, hN, hB => by
    by_cases hd : dcl A (B + 1)
    · rw [Wy_e hB (by omega), Wy_e hB (by omega)]
      refine sm_cg (fun v hv => ?_)
      by_cases q : (B + 1).testBit v = true
      · have lt := d_lt hB hv q
        have k1 : Kb A v (dif (B + 1) (2 ^ v)) = true := (Kb_t (h.2.1 v hv).1 (by omega)).mpr (fun y hy => (d_in hB hv).mpr ⟨hd v q y hy, fun e => by
          subst e
          exact ha y hv (AT_sub h hv hy)⟩)
        have k2 : Kb T v (dif (B + 1) (2 ^ v)) = true := (Kb_t (h.2.1 v hv).2 (by omega)).mpr (fun y hy => (d_in hB hv).mpr ⟨AT_cl h hd hv q hy, fun e => by
          subst e
          exact ha y hv hy⟩)
        rw [k1, k2, ways_eq h ha N _ (by omega) (by omega)]
      · have q' : (B + 1).testBit v = false := by simpa using q
        rw [q']
        simp
    · have e1 : Wy (Kb A) (B + 1) = 0 := by
        by_cases z : Wy (Kb A) (B + 1) = 0
        · exact z
        · exact absurd (ways_cl h (K_A h) (B + 1) (B + 1) (Nat.le_refl _) hB z).1 hd
      have e2 : Wy (Kb T) (B + 1) = 0 := by
        by_cases z : Wy (Kb T) (B + 1) = 0
        · exact z
        · exact absurd (ways_cl h (K_T h) (B + 1) (B + 1) (Nat.le_refl _) hB z).1 hd
      rw [e1, e2]
/-- somebody can come next -/
theorem next_ex (h : AT A T S) (ha : ∀ y, y < 12 → ¬ (T y).testBit y = true) {B : Nat} : ∀ (N v : Nat), T v ≤ N → v < 12 → S.testBit v = true → B.testBit v = false → ∃ u, u < 12 ∧ S.testBit u = true ∧ B.testBit u = false ∧ ∀ y, (T u).testBit y = true → B.testBit y = true
  | N, v, hN, hv, hS, hB => by
    by_cases q : ∀ y, (T v).testBit y = true → B.testBit y = true
    · exact ⟨v, hv, hS, hB, q⟩
    · obtain ⟨y, hy⟩ : ∃ y, ¬ ((T v).testBit y = true → B.testBit y = true) := Classical.not_forall.mp q
      have hy1 : (T v).testBit y = true := by
        by_cases z : (T v).testBit y = true
        · exact z
        · exact absurd (fun w => absurd w z) hy
      have hy2 : B.testBit y = false := by
        by_cases z : B.testBit y = true
        · exact absurd (fun _ => z) hy
        · simpa using z
      have y12 := tb12 (h.2.1 v hv).2 hy1
      have lt : T y < T v := by
        have sub : ∀ z, (T y).testBit z = true → (T v).testBit z = true := fun z hz => AT_tr h hv hy1 hz
        have e0 : T y ||| dif (T v) (T y) = T v := by
          have l31 : (2 : Nat) ^ 12 ≤ 2 ^ 31 := by decide
          have t1 := (h.2.1 v hv).2
          have t2 := (h.2.1 y y12).2
          apply Nat.eq_of_testBit_eq
          intro i
          rw [Nat.testBit_or, dif_tb (by omega) (by omega)]
          by_cases z : (T y).testBit i = true
          · simp [z, sub i z]
          · simp [z]
        have le : T y ≤ T v := by
          have := Nat.left_le_or (n := T y) (m := dif (T v) (T y))
          omega
        have ne : T y ≠ T v := fun e => ha y y12 (by rw [e]; exact hy1)
        omega
      match N, hN with
      | 0, hN => omega
      | N + 1, hN => exact next_ex h ha N y (by omega) y12 (AT_S h hv hy1).2 hy2
theorem sub_ne {B : Nat} (hB : B < 2 ^ 12) (hS : S < 2 ^ 12) (hsub : ∀ v, B.testBit v = true → S.testBit v = true) (hne : B ≠ S) : ∃ v, v < 12 ∧ S.testBit v = true ∧ B.testBit v = false := by
  by_cases q : ∃ v, S.testBit v = true ∧ B.testBit v = false
  · obtain ⟨v, v1, v2⟩ := q
    exact ⟨v, tb12 hS v1, v1, v2⟩
  · refine absurd (Nat.eq_of_testBit_eq (fun i => ?_)) hne
    by_cases z : S.testBit i = true
    · rw [z]
      by_cases w : B.testBit i = true
      · exact w
      · exact absurd ⟨i, z, by simpa using w⟩ q
    · have z' : S.testBit i = false := by simpa using z
      rw [z']
      by_cases w : B.testBit i = true
      · exact absurd (hsub i w) z
      · simpa using w
theorem ways_pos (h : AT A T S) (ha : ∀ y, y < 12 → ¬ (T y).testBit y = true) : ∀ (N B : Nat), S ≤ N + B → B < 2 ^ 12 → (∀ v, B.testBit v = true → S.testBit v = true) → Wy (Kb T) B ≠ 0 → Wy (Kb T) S ≠ 0
  | N, B, hN, hB, hsub, hw => by
    by_cases e : B = S
    · rw [← e]; exact hw
    · obtain ⟨v, v1, v2, v3⟩ := sub_ne hB h.1 hsub e
      obtain ⟨u, u1, u2, u3, u4⟩ := next_ex h ha (T v) v (Nat.le_refl _) v1 v2 v3
      have hB' := or_lt hB (p12 u1)
      have tu : (B ||| 2 ^ u).testBit u = true := by rw [tb_set]; simp
      have ed := d_or hB u1 u3
      have gt : B < B ||| 2 ^ u := by
        have := d_lt hB' u1 tu
        rw [ed] at this
        exact this
      have hsub' : ∀ v, (B ||| 2 ^ u).testBit v = true → S.testBit v = true := fun v hv => by
        rw [tb_set, Bool.or_eq_true, decide_eq_true_iff] at hv
        rcases hv with q | q
        · exact hsub v q
        · rw [← q]; exact u2
      have hw' : Wy (Kb T) (B ||| 2 ^ u) ≠ 0 := by
        rw [Wy_e hB' (by omega)]
        have k : Kb T u B = true := (Kb_t (h.2.1 u u1).2 hB).mpr u4
        have h1 := sm_ge (g := fun v => if ((B ||| 2 ^ u).testBit v && Kb T v (dif (B ||| 2 ^ u) (2 ^ v))) = true then Wy (Kb T) (dif (B ||| 2 ^ u) (2 ^ v)) else 0) u1
        have h2 : (if ((B ||| 2 ^ u).testBit u && Kb T u (dif (B ||| 2 ^ u) (2 ^ u))) = true then Wy (Kb T) (dif (B ||| 2 ^ u) (2 ^ u)) else 0) = Wy (Kb T) B := by
          rw [tu, ed, k]
          rfl
        have h3 : Wy (Kb T) B ≤ sm (fun v => if ((B ||| 2 ^ u).testBit v && Kb T v (dif (B ||| 2 ^ u) (2 ^ v))) = true then Wy (Kb T) (dif (B ||| 2 ^ u) (2 ^ v)) else 0) 12 := by
          rw [← h2]; exact h1
        omega
      match N, hN with
      | 0, hN =>
        -- B ∪ u lies in S, and S ≤ B
        have le : B ||| 2 ^ u ≤ S := by
          have e0 : (B ||| 2 ^ u) ||| S = S := by
            apply Nat.eq_of_testBit_eq
            intro i
            rw [Nat.testBit_or]
            by_cases z : (B ||| 2 ^ u).testBit i = true
            · rw [z, hsub' i z]; rfl
            · simp [z]
          have := Nat.left_le_or (n := B ||| 2 ^ u) (m := S)
          omega
        omega
      | N + 1, hN => exact ways_pos h ha N (B ||| 2 ^ u) (by omega) hB' hsub' hw'
/-- there are orders just where nobody stands ahead of himself -/
theorem ways_iff (h : AT A T S) : (Wy (Kb A) S ≠ 0 ↔ ∀ y, y < 12 → ¬ (T y).testBit y = true) := by
  constructor
  · intro hw y hy hc
    exact (ways_cl h (K_A h) S S (Nat.le_refl _) h.1 hw).2 y (AT_S h hy hc).1 hc
  · intro ha
    rw [ways_eq h ha S S (Nat.le_refl _) h.1]
    exact ways_pos h ha S 0 (by omega) (by omega) (fun v hv => by simp at hv) (by rw [Wy_0]; omega)
end WY
