/-! questions of what is laid out: line, ring, flat, bits -/
theorem WLI_n {w d n w' d' n' : Nat} {c r : zM} (h : WLI w d n c r) (h' : WLI w' d' n' c r) : w' = w ∧ n' = n := by
  have a := h.n12
  have b := h'.n12
  exact ⟨Option.some.inj (h'.1.symm.trans h.1), (nIeq (by omega) (by omega)).mp (h'.2.2.2.2.2.2.1.symm.trans h.2.2.2.2.2.2.1)⟩
theorem lay3 {w d n : Nat} {c r : zM} (hI : INV c r) (hW : WLI w d n c r) : ok2 (fX9_settle c) (fX10_lays_ r) (fun c' r' => INV c' r' ∧ WLI w d n c' r' ∧ RFL n c' r' ∧ OVR n c' r') := by
  obtain ⟨c', r', e1, e2, h1, w', d', n', h2, h3, h4⟩ := lay2 hI
  have f := frX10_lays_ (ks := [44, 45, 46, 47, 48, 49, 50, 51]) (fun k h => h) (FS_refl r) r' e2
  have g := frX9_settle (ks := [11, 12, 13, 17, 18, 20, 21, 22, 24, 25, 26, 27, 1209, 1912]) (fun k h => h) (FS_refl c) c' e1
  have hW' : WLI w d n c' r' := WLI_fs hW g (by decide) f (by decide)
  obtain ⟨rfl, rfl⟩ := WLI_n hW' h2
  exact ⟨c', r', e1, e2, h1, hW', h3, h4⟩
theorem settle1 {w d n : Nat} {c r : zM} (hI : INV c r) (hW : WLI w d n c r) : ok (fX9_settle c) (fun c' => INV c' r ∧ WLI w d n c' r ∧ OVR n c' r) := by
  obtain ⟨c', e1, h1, w', d', n', h2, h3⟩ := settle_ok hI
  have g := frX9_settle (ks := [11, 12, 13, 17, 18, 20, 21, 22, 24, 25, 26, 27, 1209, 1912]) (fun k h => h) (FS_refl c) c' e1
  have hW' : WLI w d n c' r := WLI_fs hW g (by decide) (FS_refl (ks := []) r) (by decide)
  obtain ⟨rfl, rfl⟩ := WLI_n hW' h2
  exact ⟨c', e1, h1, hW', (h3 r hW'.2.2.2.2.2.2.1 hW'.2.2.2.2.2.2.2).2⟩
/-- a set of letters -/
def bsN (P : Nat → Bool) : Nat → Nat
  | 0 => 0
  | m + 1 => if P m = true then bsN P m ||| 2 ^ m else bsN P m
theorem bsN_tb (P : Nat → Bool) : ∀ m i, (bsN P m).testBit i = (decide (i < m) && P i)
  | 0, i => by simp [bsN]
  | m + 1, i => by
    unfold bsN
    by_cases h : P m = true
    · rw [if_pos h, tb_set, bsN_tb P m i]
      by_cases e : m = i
      · subst e; simp [h]
      · by_cases q : i < m
        · simp [e, q, show i < m + 1 by omega]
        · simp [e, q, show ¬ i < m + 1 by omega]
    · rw [if_neg h, bsN_tb P m i]
      by_cases e : m = i
      · subst e
        have : P m = false := by simpa using h
        simp [this]
      · by_cases q : i < m
        · simp [q, show i < m + 1 by omega]
        · simp [q, show ¬ i < m + 1 by omega]
theorem bsN_lt (P : Nat → Bool) : ∀ m, bsN P m < 2 ^ m
  | 0 => by simp [bsN]
  | m + 1 => by
    have h1 := bsN_lt P m
    unfold bsN
    have h2 : (2 : Nat) ^ (m + 1) = 2 ^ m * 2 := Nat.pow_succ 2 m
    by_cases h : P m = true
    · rw [if_pos h]
      exact or_lt (by omega) (by omega)
    · rw [if_neg h]; omega
/-- kinds as numbers -/
def kdN (c : zM) (u m : Nat) : Nat := zn (gi c 11 0 (26 * u + m))
section RF
variable {w d n u m : Nat} {c r : zM}
theorem RFL.kd (h : RFL n c r) (hu : u < n) (hm : m < 26) : kdN c u m < 4 ∧ gi c 11 0 (26 * u + m) = nI (kdN c u m) ∧ gi r 44 0 (5 * (26 * u + m)) = nI (kdN c u m) := by
  obtain ⟨k, k4, e1, e2, -⟩ := h.1 u m hu hm
  unfold kdN
  rw [e1, zn_n (by omega)]
  exact ⟨k4, rfl, e2⟩
theorem RFL.kc (h : RFL n c r) (n12 : n ≤ 12) (hu : u < n) (hm : m < 26) : fX0_kindOf (nI u) (nI m) c = some (nI (kdN c u m)) := by
  unfold fX0_kindOf
  rw [l26, pk_mul, nI_add, zo _ (by omega) (by omega), zn_n (by omega), Nat.mul_comm u 26, (h.kd hu hm).2.1]
theorem RFL.kr (h : RFL n c r) (n12 : n ≤ 12) (hu : u < n) (hm : m < 26) : fX10_kindOf (nI u) (nI m) r = some (nI (kdN c u m)) := by
  unfold fX10_kindOf
  rw [qFlatAt, Option.bind_some, zo _ (by omega) (by omega), zn_n (by omega), (h.kd hu hm).2.2]
theorem bits_loop {L : Int32 × Int32 → Option ((Int32 × Int32) ⊕ (Int32 ⊕ Empty))} {P : Nat → Bool} {M : Nat} (hM : M ≤ 26) (hgo : ∀ i S, i < M → S < 2 ^ i → L (nI S, nI i) = some (.inl (if P i = true then nI (S ||| 2 ^ i) else nI S, nI (i + 1)))) (hend : ∀ S, L (nI S, nI M) = some (.inr (.inl (nI S)))) : (zloop L zF (0, 0)).bind (fun o4 => zcase o4 (fun y2 => some y2) (fun r3 => r3.elim)) = some (nI (bsN P M)) := by
  have h : ok (zloop L zF (0, 0)) (fun o => o = Sum.inl (nI (bsN P M))) := by
    refine ok_for (fun i s => s = (nI (bsN P i), nI i)) (a := 0) (b := M) (by omega) (by unfold zF; omega) rfl (fun i s _ hi hI => ?_) (fun s hI => ?_)
    · subst hI
      rw [hgo i _ hi (bsN_lt P i)]
      refine ok_some (Or.inl ⟨_, rfl, ?_⟩)
      by_cases q : P i = true
      · rw [if_pos q, show bsN P (i + 1) = if P i = true then bsN P i ||| 2 ^ i else bsN P i from rfl, if_pos q]
      · rw [if_neg q, show bsN P (i + 1) = if P i = true then bsN P i ||| 2 ^ i else bsN P i from rfl, if_neg q]
    · subst hI
      rw [hend]
      exact ok_some ⟨_, rfl, rfl⟩
  obtain ⟨o, e, rfl⟩ := h
  rw [e]
  rfl
theorem RFL.bc {k : Nat} (h : RFL n c r) (n12 : n ≤ 12) (hu : u < n) (hk : k < 5) : fX0_bitsOf (nI u) (nI k) c = some (nI (bsN (fun m => kdN c u m == k) 26)) := by
  unfold fX0_bitsOf
  refine bits_loop (by omega) (fun i S hi hS => ?_) (fun S => ?_)
  · unfold fX0_bitsOf_L5
    dsimp only
    have k4 := (h.kd hu hi).1
    rw [l26, if_neg (fun q => by have := (nIle (by omega) (by omega)).mp q; omega), h.kc n12 hu hi, Option.bind_some, set1 (by omega), nI_1]
    by_cases q : kdN c u i = k
    · rw [if_pos (by rw [q]), if_pos (by simp [q])]
    · rw [if_neg (fun z => q ((nIeq (by omega) (by omega)).mp z)), if_neg (by simp [q])]
  · unfold fX0_bitsOf_L5
    dsimp only
    rw [l26, if_pos (Int32.le_refl _)]
theorem RFL.br {k : Nat} (h : RFL n c r) (n12 : n ≤ 12) (hu : u < n) (hk : k < 5) (hk0 : 0 < k) : fX10_flatSet (nI u) (nI k) r = some (nI (bsN (fun m => kdN c u m == k) 26)) := by
  unfold fX10_flatSet
  refine bits_loop (by omega) (fun i S hi hS => ?_) (fun S => ?_)
  · unfold fX10_flatSet_L5
    dsimp only
    have k4 := (h.kd hu hi).1
    rw [l26, if_neg (fun q => by have := (nIle (by omega) (by omega)).mp q; omega), h.kr n12 hu hi, Option.bind_some, set1 (by omega), nI_1, if_neg (nIm1 (by omega)), Int32.or_zero]
    by_cases q : kdN c u i = k
    · rw [if_neg (fun z => by have := (nIeq (b := 0) (by omega) (by omega)).mp z; omega), if_pos (by rw [q]), if_pos (by simp [q])]
    · rw [if_neg (fun z => q ((nIeq (by omega) (by omega)).mp z))]
      have e : (if nI (kdN c u i) = 0 then some (Sum.inl (nI S, nI (i + 1)) : (Int32 × Int32) ⊕ (Int32 ⊕ Empty)) else some (Sum.inl (nI S, nI (i + 1)))) = some (Sum.inl (nI S, nI (i + 1))) := by split <;> rfl
      rw [e, if_neg (by simp [q])]
  · unfold fX10_flatSet_L5
    dsimp only
    rw [l26, if_pos (Int32.le_refl _)]
theorem RFL.ba (h : RFL n c r) (n12 : n ≤ 12) (hu : u < n) : fX10_flatSet (nI u) (-1) r = some (nI (bsN (fun m => kdN c u m != 0) 26)) := by
  unfold fX10_flatSet
  refine bits_loop (by omega) (fun i S hi hS => ?_) (fun S => ?_)
  · unfold fX10_flatSet_L5
    dsimp only
    have k4 := (h.kd hu hi).1
    rw [l26, if_neg (fun q => by have := (nIle (by omega) (by omega)).mp q; omega), h.kr n12 hu hi, Option.bind_some, set1 (by omega), nI_1, if_pos rfl, Int32.or_zero]
    by_cases q : kdN c u i = 0
    · rw [if_pos (by rw [q]; rfl), if_neg (by simp [q])]
    · rw [if_neg (show ¬ nI (kdN c u i) = 0 from fun z => q ((nIeq (b := 0) (by omega) (by omega)).mp z)), if_pos (by simp [q])]
  · unfold fX10_flatSet_L5
    dsimp only
    rw [l26, if_pos (Int32.le_refl _)]
theorem RFL.ca (h : RFL n c r) (n12 : n ≤ 12) (hu : u < n) : fX0_bitsOfAll (nI u) c = some (nI (bsN (fun m => kdN c u m != 0) 26)) := by
  unfold fX0_bitsOfAll
  rw [show (1 : Int32) = nI 1 from rfl, show (2 : Int32) = nI 2 from rfl, show (3 : Int32) = nI 3 from rfl, h.bc n12 hu (by omega), h.bc n12 hu (by omega), h.bc n12 hu (by omega), Option.bind_some, Option.bind_some, Option.bind_some, fa_or, fa_or]
  congr 2
  apply Nat.eq_of_testBit_eq
  intro i
  rw [Nat.testBit_or, Nat.testBit_or, bsN_tb, bsN_tb, bsN_tb, bsN_tb]
  by_cases q : i < 26
  · have k4 := (h.kd hu q).1
    generalize kdN c u i = k at k4
    match k, k4 with
    | 0, _ => simp [q]
    | 1, _ => simp [q]
    | 2, _ => simp [q]
    | 3, _ => simp [q]
  · simp [q]
/-- lines as numbers -/
theorem RFL.ln (h : RFL n c r) (hu : u < n) : ∃ L, L ≤ 12 ∧ gi c 18 0 u = nI L ∧ gi r 46 0 u = nI L ∧ ∀ i, i < L → ∃ t, t < n ∧ gi c 17 u i = nI t ∧ gi r 45 0 (12 * u + i) = nI t := by
  obtain ⟨L, K, m1, m2, m3, m4, m5, m6, m7, m8⟩ := h.2 u hu
  exact ⟨L, m1, m3, m4, m5⟩
end RF
theorem call_line (v1 v2 : Int32) : CALL (fX9_line v1 v2) (fX10_line v1 v2) := fun c r hI => by
  obtain ⟨t, w, d, n, a, b, h, nx, hT, hW, hS, hH, hF⟩ := id hI
  have h12 := hW.n12
  unfold fX9_line fX10_line
  simp only [hW.1, hW.cTy, hW.rTy, Option.bind_some]
  by_cases t1 : zin v1 n = true ∧ gi r 38 0 (113 * zn v1) = 0
  rotate_left
  · rw [if_neg t1]; exact ok2_some ⟨rfl, hI⟩
  rw [if_pos t1, if_neg n10, if_neg n10]
  refine ok2_if Iff.rfl (fun hv _ => ?_) (fun _ _ => ok2_some ⟨rfl, hI⟩)
  obtain ⟨x, hx, rfl, hx3⟩ := zin_e t1.1
  refine ok2_bind (lay3 hI hW) (fun c1 r1 h1 => ?_)
  obtain ⟨hI1, hW1, hR, -⟩ := h1
  obtain ⟨L, L12, e1, e2, e3⟩ := hR.ln hx
  unfold fX9_itemOrCount_17
  rw [zo _ (by omega) (by omega), zo _ (by omega) (by omega), zo _ (by omega) (by omega), zo _ (by omega) (by omega), zn_n (by omega), e1, e2]
  by_cases q : v2 = -1
  · rw [if_pos q, if_pos q]; exact ok2_some ⟨rfl, hI1⟩
  rw [if_neg q, if_neg q]
  obtain ⟨j, hj, rfl⟩ := nI_of (m1le hv q)
  rw [if_neg (nI_pos (by omega))]
  by_cases z : L ≤ j
  · have z' := (nIle (a := L) (b := j) (by omega) (by omega)).mpr z
    rw [if_pos z', if_pos z']; exact ok2_some ⟨rfl, hI1⟩
  · have z' : ¬ nI L ≤ nI j := fun y => z ((nIle (by omega) (by omega)).mp y)
    rw [if_neg z', if_neg z', l12, if_neg (fun y => by have := (nIle (by omega) (by omega)).mp y; omega), zo _ (by omega) (by omega), pk_mul, nI_add, zo _ (by omega) (by omega), zn_n (by omega), zn_n (by omega)]
    obtain ⟨t', -, f1, f2⟩ := e3 j (by omega)
    exact ok2_some ⟨by rw [f1, f2], hI1⟩
theorem call_ring (v1 v2 : Int32) : CALL (fX9_ring v1 v2) (fX10_ring v1 v2) := fun c r hI => by
  obtain ⟨t, w, d, n, a, b, h, nx, hT, hW, hS, hH, hF⟩ := id hI
  have h12 := hW.n12
  unfold fX9_ring fX10_ring
  simp only [hW.1, hW.cTy, hW.rTy, Option.bind_some]
  by_cases t1 : zin v1 n = true ∧ gi r 38 0 (113 * zn v1) = 0
  rotate_left
  · rw [if_neg t1]; exact ok2_some ⟨rfl, hI⟩
  rw [if_pos t1, if_neg n10, if_neg n10]
  refine ok2_if Iff.rfl (fun hv _ => ?_) (fun _ _ => ok2_some ⟨rfl, hI⟩)
  obtain ⟨x, hx, rfl, hx3⟩ := zin_e t1.1
  refine ok2_bind (lay3 hI hW) (fun c1 r1 h1 => ?_)
  obtain ⟨hI1, hW1, hR, -⟩ := h1
  obtain ⟨L, K, m1, m2, m3, m4, m5, m6, m7, m8⟩ := hR.2 x hx
  unfold fX9_itemOrCount_20
  rw [zo _ (by omega) (by omega), zo _ (by omega) (by omega), zo _ (by omega) (by omega), zo _ (by omega) (by omega), zn_n (by omega), m6, m7]
  by_cases q : v2 = -1
  · rw [if_pos q, if_pos q]; exact ok2_some ⟨rfl, hI1⟩
  rw [if_neg q, if_neg q]
  obtain ⟨j, hj, rfl⟩ := nI_of (m1le hv q)
  rw [if_neg (nI_pos (by omega))]
  by_cases z : K ≤ j
  · have z' := (nIle (a := K) (b := j) (by omega) (by omega)).mpr z
    rw [if_pos z', if_pos z']; exact ok2_some ⟨rfl, hI1⟩
  · have z' : ¬ nI K ≤ nI j := fun y => z ((nIle (by omega) (by omega)).mp y)
    rw [if_neg z', if_neg z', l12, if_neg (fun y => by have := (nIle (by omega) (by omega)).mp y; omega), zo _ (by omega) (by omega), pk_mul, nI_add, zo _ (by omega) (by omega), zn_n (by omega), zn_n (by omega)]
    exact ok2_some ⟨m8 j (by omega), hI1⟩
