/-! mean -/
theorem lgp {a b : Nat} (ha : a < 2 ^ 63) (hb : b < 2 ^ 63) : 0 < lg_cmp (lN a) (lN b) ↔ b < a := by
  unfold lg_cmp
  by_cases h : b < a
  · rw [if_pos ((pk_lLT hb ha).mpr h)]; exact ⟨fun _ => h, fun _ => by decide⟩
  · rw [if_neg (fun q => h ((pk_lLT hb ha).mp q))]
    refine ⟨fun q => ?_, fun q => absurd q h⟩
    split at q <;> exact absurd q (by decide)
theorem lgn {a b : Nat} (ha : a < 2 ^ 63) (hb : b < 2 ^ 63) : lg_cmp (lN a) (lN b) < 0 ↔ a < b := by
  unfold lg_cmp
  by_cases h : b < a
  · rw [if_pos ((pk_lLT hb ha).mpr h)]; exact ⟨fun q => absurd q (by decide), fun q => by omega⟩
  · rw [if_neg (fun q => h ((pk_lLT hb ha).mp q))]
    by_cases e : a = b
    · rw [if_pos (by rw [e])]; exact ⟨fun q => absurd q (by decide), fun q => by omega⟩
    · rw [if_neg (fun q => e ((pk_lEQ ha hb).mp q))]; exact ⟨fun _ => by omega, fun _ => by decide⟩
theorem lgle {a b : Nat} (ha : a < 2 ^ 63) (hb : b < 2 ^ 63) : lg_cmp (lN a) (lN b) ≤ 0 ↔ a ≤ b := by
  unfold lg_cmp
  by_cases h : b < a
  · rw [if_pos ((pk_lLT hb ha).mpr h)]; exact ⟨fun q => absurd q (by decide), fun q => by omega⟩
  · rw [if_neg (fun q => h ((pk_lLT hb ha).mp q))]
    refine ⟨fun q => by omega, fun _ => ?_⟩
    split <;> decide
theorem l2N (a : Nat) : lN a * 2 = lN (2 * a) := by
  rw [show (2 : Int64) = lN 2 from rfl, lN_mul, Nat.mul_comm]
theorem shl52 : ∀ e, e < 13 → (1023 + (nI e).toInt64) <<< ((52 : Int32).toInt64 &&& 63) = lN ((1023 + e) * 2 ^ 52) := by decide +kernel
/-- the bits of the quotient as a number -/
def qn (d e t r : Nat) : Nat := (1023 + e) * 2 ^ 52 + (t + if 2 * r ≤ d then 0 else 1)
theorem qbits {A B : Nat} {mm : zM} (h1 : 1 ≤ B) (h2 : B ≤ A) (hA : A < 4096) : ok (fX9_quotientBits (nI A) (nI B) mm) (fun q => ∃ e t r, e < 13 ∧ B * 2 ^ e ≤ A ∧ A < 2 * (B * 2 ^ e) ∧ r < B * 2 ^ e ∧ r + (B * 2 ^ e) * t = (A - B * 2 ^ e) * 2 ^ 52 ∧ q = lN (qn (B * 2 ^ e) e t r)) := by
  unfold fX9_quotientBits
  rw [if_neg (show ¬ nI B ≤ 0 from fun q => by have := (nIle (b := 0) (by omega) (by omega)).mp q; omega), if_pos ((nIle (by omega) (by omega)).mpr h2), nI_l (by omega), nI_l (by omega)]
  have lp : ok (zloop (fX9_quotientBits_L19 (nI A) mm) zF (lN B, 0)) (fun o => ∃ e, o = Sum.inl (lN (B * 2 ^ e), nI e) ∧ e < 13 ∧ B * 2 ^ e ≤ A ∧ A < 2 * (B * 2 ^ e)) := by
    refine ok_for (fun i s => s = (lN (B * 2 ^ i), nI i) ∧ B * 2 ^ i ≤ A) (a := 0) (b := 12) (by omega) (by unfold zF; omega) ⟨by rw [Nat.pow_zero, Nat.mul_one]; rfl, by omega⟩ (fun i s _ hi hI => ?_) (fun s hI => ?_)
    · obtain ⟨rfl, hle⟩ := hI
      unfold fX9_quotientBits_L19
      dsimp only
      have e2 : 2 * (B * 2 ^ i) = B * 2 ^ (i + 1) := by rw [Nat.pow_succ, Nat.mul_comm 2, Nat.mul_assoc]
      rw [if_neg (show ¬ 31 ≤ nI i from fun q => by have := (nIle (a := 31) (by omega) (by omega)).mp q; omega), l2N, nI_l (by omega), nI_1]
      by_cases q : A < 2 * (B * 2 ^ i)
      · rw [if_pos ((lgp (by omega) (by omega)).mpr q)]
        exact ok_some (Or.inr ⟨_, rfl, i, rfl, by omega, hle, q⟩)
      · rw [if_neg (fun y => q ((lgp (by omega) (by omega)).mp y)), e2]
        exact ok_some (Or.inl ⟨_, rfl, rfl, by omega⟩)
    · obtain ⟨rfl, hle⟩ := hI
      omega
  refine ok_bind lp (fun o ho => ?_)
  obtain ⟨e, rfl, e1, e2, e3⟩ := ho
  generalize hd : B * 2 ^ e = d at e2 e3
  have hX : A - d < d := by omega
  show ok (Option.bind (zloop (fX9_quotientBits_L61 (lN d) (nI e) mm) zF (lN A - lN d, 0, 0)) _) _
  rw [lN_sub e2]
  have lq : ok (zloop (fX9_quotientBits_L61 (lN d) (nI e) mm) zF (lN (A - d), 0, 0)) (fun o => ∃ t r, o = Sum.inl (lN r, lN t) ∧ r < d ∧ r + d * t = (A - d) * 2 ^ 52) := by
    refine ok_for (fun i s => ∃ t r, s = (lN r, lN t, nI i) ∧ r < d ∧ r + d * t = (A - d) * 2 ^ i) (a := 0) (b := 52) (by omega) (by unfold zF; omega) ⟨0, A - d, rfl, hX, by omega⟩ (fun i s _ hi hI => ?_) (fun s hI => ?_)
    · obtain ⟨t, r, rfl, r1, r2⟩ := hI
      unfold fX9_quotientBits_L61
      dsimp only
      have ep : (A - d) * 2 ^ (i + 1) = 2 * ((A - d) * 2 ^ i) := by rw [Nat.pow_succ, ← Nat.mul_assoc, Nat.mul_comm 2]
      have em : d * (2 * t) = 2 * (d * t) := by rw [Nat.mul_left_comm]
      have em1 : d * (2 * t + 1) = 2 * (d * t) + d := by rw [Nat.mul_add, em, Nat.mul_one]
      rw [if_neg (show ¬ 52 ≤ nI i from fun q => by have := (nIle (a := 52) (by omega) (by omega)).mp q; omega), l2N, l2N, nI_1]
      by_cases q : 2 * r < d
      · rw [if_pos ((lgn (by omega) (by omega)).mpr q)]
        exact ok_some (Or.inl ⟨_, rfl, 2 * t, 2 * r, rfl, q, by omega⟩)
      · rw [if_neg (fun y => q ((lgn (by omega) (by omega)).mp y)), lN_sub (by omega), lN_1]
        exact ok_some (Or.inl ⟨_, rfl, 2 * t + 1, 2 * r - d, rfl, by omega, by omega⟩)
    · obtain ⟨t, r, rfl, r1, r2⟩ := hI
      unfold fX9_quotientBits_L61
      dsimp only
      rw [if_pos (show 52 ≤ nI 52 from Int32.le_refl _)]
      exact ok_some ⟨_, rfl, t, r, rfl, r1, r2⟩
  refine ok_bind lq (fun o ho => ?_)
  obtain ⟨t, r, rfl, r1, r2⟩ := ho
  show ok (if lg_cmp (lN r * 2) (lN d) ≤ 0 then some ((1023 + (nI e).toInt64) <<< ((52 : Int32).toInt64 &&& 63) + lN t) else some ((1023 + (nI e).toInt64) <<< ((52 : Int32).toInt64 &&& 63) + (lN t + 1))) _
  rw [shl52 e e1, l2N, lN_1, lN_add, lN_add]
  by_cases q : 2 * r ≤ d
  · rw [if_pos ((lgle (by omega) (by omega)).mpr q)]
    refine ok_some ⟨e, t, r, e1, by omega, by omega, by omega, by rw [hd]; exact r2, ?_⟩
    unfold qn
    rw [hd, if_pos q, Nat.add_zero]
  · rw [if_neg (fun y => q ((lgle (by omega) (by omega)).mp y))]
    refine ok_some ⟨e, t, r, e1, by omega, by omega, by omega, by rw [hd]; exact r2, ?_⟩
    unfold qn
    rw [hd, if_neg q]
theorem i2dv {A : Nat} (h1 : 1 ≤ A) (hA : A < 4096) : ∃ k : Nat, Jvm.FP.Core.val64 (FP.i2d (nI A)) = .fin false (A * 2 ^ k) (-(k : Int)) := by
  have l1 : 2 ^ A.log2 ≤ A := Nat.log2_self_le (by omega)
  have l2 : A < 2 ^ (A.log2 + 1) := Nat.lt_log2_self
  have l3 : A.log2 < 12 := by
    by_cases q : A.log2 < 12
    · exact q
    · have : 2 ^ 12 ≤ 2 ^ A.log2 := Nat.pow_le_pow_right (by decide) (by omega)
      omega
  generalize A.log2 = g at l1 l2 l3
  refine ⟨52 - g, ?_⟩
  have e : Jvm.FP.Core.val64 (FP.i2d (nI A)) = Jvm.FP.Core.round Jvm.FP.Core.b64 (Jvm.FP.Core.ofInt (nI A).toInt) := Jvm.FP.Core.val64_i2d _
  rw [e, show (nI A).toInt = (A : Int) from nI_toInt (by omega)]
  have e2 : Jvm.FP.Core.ofInt (A : Int) = .fin false A 0 := by
    unfold Jvm.FP.Core.ofInt
    rw [decide_eq_false (by omega), Int.natAbs_natCast]
  rw [e2]
  show Jvm.FP.Core.roundRatio Jvm.FP.Core.b64 false A 1 0 = _
  have pw : 2 ^ g * 2 ^ (52 - g) = 2 ^ 52 := by rw [← Nat.pow_add]; congr 1; omega
  have pw1 : 2 ^ (g + 1) * 2 ^ (52 - g) = 2 ^ 53 := by rw [← Nat.pow_add]; congr 1; omega
  refine Jvm.FP.Core.roundRatio_exact Jvm.FP.Core.good_b64 (by decide) ⟨?_, ?_, ?_, Or.inr ?_⟩ ?_
  · show A * 2 ^ (52 - g) < 2 ^ 53
    rw [← pw1]
    exact Nat.mul_lt_mul_of_pos_right l2 (Nat.two_pow_pos _)
  · show (-1074 : Int) ≤ _
    omega
  · show _ ≤ (971 : Int)
    omega
  · show 2 ^ 52 ≤ A * 2 ^ (52 - g)
    rw [← pw]
    exact Nat.mul_le_mul_right _ l1
  · rw [Nat.mul_one, show (0 - -((52 - g : Nat) : Int)).toNat = 52 - g by omega, show (-((52 - g : Nat) : Int) - 0).toNat = 0 by omega, Nat.pow_zero, Nat.mul_one]
theorem odd_no {d a s : Nat} (h : a * 2 ^ 53 = (2 * s + 1) * d) (h0 : 0 < d) (hd : d < 2 ^ 53) : False := by
  have h1 : 2 ^ 53 ∣ (2 * s + 1) * d := ⟨a, by rw [← h, Nat.mul_comm]⟩
  have c : Nat.Coprime (2 ^ 53) (2 * s + 1) := Nat.Coprime.pow_left 53 (by
    unfold Nat.Coprime
    rw [Nat.gcd_rec, show (2 * s + 1) % 2 = 1 by omega]
    rfl)
  have := Nat.le_of_dvd h0 (c.dvd_of_dvd_mul_left h1)
  omega
theorem qref {A B e t r : Nat} (h1 : 1 ≤ B) (hA : A < 4096) (he : e < 13) (h2 : B * 2 ^ e ≤ A) (h3 : A < 2 * (B * 2 ^ e)) (hr : r < B * 2 ^ e) (ht : r + (B * 2 ^ e) * t = (A - B * 2 ^ e) * 2 ^ 52) : FP.ddiv (FP.i2d (nI A)) (FP.i2d (nI B)) = UInt64.ofNat (qn (B * 2 ^ e) e t r) ∧ Jvm.FP.Core.val64 (FP.ddiv (FP.i2d (nI A)) (FP.i2d (nI B))) = .fin false (2 ^ 52 + (t + if 2 * r ≤ B * 2 ^ e then 0 else 1)) ((e : Int) - 52) ∧ t + 1 < 2 ^ 52 := by
  have p0 := Nat.two_pow_pos e
  have hBd : B ≤ B * 2 ^ e := Nat.le_mul_of_pos_right _ p0
  obtain ⟨k, hk⟩ := i2dv (A := A) (by omega) hA
  obtain ⟨j, hj⟩ := i2dv (A := B) h1 (by omega)
  have tl : t + 1 < 2 ^ 52 := by
    by_cases q : t + 1 < 2 ^ 52
    · exact q
    · generalize B * 2 ^ e = d at *
      have a1 : d * 2 ^ 52 ≤ d * (t + 1) := Nat.mul_le_mul_left _ (by omega)
      have a2 : (A - d) * 2 ^ 52 ≤ (d - 1) * 2 ^ 52 := Nat.mul_le_mul_right _ (by omega)
      rw [Nat.mul_add, Nat.mul_one] at a1
      rw [Nat.sub_mul] at a2
      omega
  have hB0 : B * 2 ^ j ≠ 0 := Nat.ne_of_gt (Nat.mul_pos (by omega) (Nat.two_pow_pos _))
  have v : Jvm.FP.Core.val64 (FP.ddiv (FP.i2d (nI A)) (FP.i2d (nI B))) = .fin false (2 ^ 52 + (t + if 2 * r ≤ B * 2 ^ e then 0 else 1)) ((e : Int) - 52) := by
    have e0 : Jvm.FP.Core.val64 (FP.ddiv (FP.i2d (nI A)) (FP.i2d (nI B))) = Jvm.FP.Core.quotient Jvm.FP.Core.b64 (Jvm.FP.Core.val64 (FP.i2d (nI A))) (Jvm.FP.Core.val64 (FP.i2d (nI B))) := Jvm.FP.Core.val64_ddiv _ _
    rw [e0, hk, hj]
    unfold Jvm.FP.Core.quotient
    dsimp only
    rw [if_neg hB0, Jvm.FP.Core.roundRatio_congr (A' := A) (B' := B) (e' := 0) (by omega) (by omega) (by
      have x1 : k + (-(k : Int) - -(j : Int) - 0).toNat = j + (0 - (-(k : Int) - -(j : Int))).toNat := by omega
      generalize (-(k : Int) - -(j : Int) - 0).toNat = x at *
      generalize (0 - (-(k : Int) - -(j : Int))).toNat = y at *
      calc A * 2 ^ k * B * 2 ^ x = A * B * (2 ^ k * 2 ^ x) := by rw [Nat.mul_right_comm A, Nat.mul_assoc (A * B)]
        _ = A * B * (2 ^ j * 2 ^ y) := by rw [← Nat.pow_add, x1, Nat.pow_add]
        _ = A * (B * 2 ^ j) * 2 ^ y := by rw [← Nat.mul_assoc, Nat.mul_assoc A B])]
    unfold Jvm.FP.Core.roundRatio
    rw [if_neg (show ¬ A = 0 by omega)]
    have eq1 : Jvm.FP.Core.quantum Jvm.FP.Core.b64 A B 0 = (e : Int) - 52 := by
      refine Jvm.FP.Core.quantum_eq (by omega) (by omega) (show (-1074 : Int) ≤ _ by omega) ?_ (Or.inr ?_)
      · rw [show (e : Int) - 52 - 0 + (Jvm.FP.Core.b64.p : Nat) = ((e + 1 : Nat) : Int) - (0 : Nat) by show (e : Int) - 52 - 0 + ((53 : Nat) : Int) = _; omega, Jvm.FP.Core.below_iff, Nat.pow_zero, Nat.mul_one, Nat.pow_succ, ← Nat.mul_assoc]
        omega
      · rw [show (e : Int) - 52 - 0 + (((Jvm.FP.Core.b64.p : Nat) : Int) - 1) = (e : Int) - (0 : Nat) by show (e : Int) - 52 - 0 + (((53 : Nat) : Int) - 1) = _; omega, Jvm.FP.Core.below_iff, Nat.pow_zero, Nat.mul_one]
        omega
    rw [eq1]
    unfold Jvm.FP.Core.roundAt Jvm.FP.Core.unitsNum Jvm.FP.Core.unitsDen
    rw [show (0 - ((e : Int) - 52)).toNat = 52 - e by omega, show ((e : Int) - 52 - 0).toNat = 0 by omega, Nat.pow_zero, Nat.mul_one]
    have hd0 : 0 < B * 2 ^ e := by omega
    rw [Jvm.FP.Core.nearest_congr (A' := A * 2 ^ 52) (B' := B * 2 ^ e) (by omega) hd0 (by
      calc A * 2 ^ (52 - e) * (B * 2 ^ e) = A * B * (2 ^ (52 - e) * 2 ^ e) := by rw [← Nat.mul_assoc, Nat.mul_right_comm A, Nat.mul_assoc (A * B)]
        _ = A * B * 2 ^ 52 := by rw [← Nat.pow_add, show 52 - e + e = 52 by omega]
        _ = A * 2 ^ 52 * B := by rw [Nat.mul_right_comm])]
    generalize B * 2 ^ e = d at *
    have full : A * 2 ^ 52 = r + d * (2 ^ 52 + t) := by
      have : A * 2 ^ 52 = (A - d) * 2 ^ 52 + d * 2 ^ 52 := by rw [← Nat.add_mul]; congr 1; omega
      rw [Nat.mul_add]
      omega
    have dm := (Nat.div_mod_unique (a := A * 2 ^ 52) (c := r) (d := 2 ^ 52 + t) hd0).mpr ⟨full.symm, hr⟩
    have nt : ¬ 2 * r = d := fun q => by
      refine odd_no (d := d) (a := A) (s := 2 ^ 52 + t) ?_ hd0 (by omega)
      rw [show (2 : Nat) ^ 53 = 2 ^ 52 * 2 from rfl, ← Nat.mul_assoc, full, Nat.add_mul, Nat.add_mul, Nat.one_mul, Nat.mul_comm d, Nat.mul_right_comm, Nat.mul_comm _ 2, Nat.mul_comm _ 2]
      omega
    have en : Jvm.FP.Core.nearest (A * 2 ^ 52) d = 2 ^ 52 + (t + if 2 * r ≤ d then 0 else 1) := by
      unfold Jvm.FP.Core.nearest
      rw [dm.1, dm.2]
      by_cases q : 2 * r ≤ d
      · rw [if_pos (show 2 * r < d by omega), if_pos q, Nat.add_zero]
      · rw [if_neg (show ¬ 2 * r < d by omega), if_pos (show d < 2 * r by omega), if_neg q, Nat.add_assoc]
    rw [en]
    have lim : 2 ^ 52 + (t + if 2 * r ≤ d then 0 else 1) < 2 ^ Jvm.FP.Core.b64.p := by
      show _ < 2 ^ 53
      split <;> omega
    unfold Jvm.FP.Core.settle Jvm.FP.Core.bound
    rw [if_pos lim, if_pos (show (e : Int) - 52 ≤ Jvm.FP.Core.b64.qmax from show _ ≤ (971 : Int) by omega)]
    rfl
  refine ⟨?_, v, tl⟩
  have e1 : FP.ddiv (FP.i2d (nI A)) (FP.i2d (nI B)) = Jvm.FP.Core.of64 (Jvm.FP.Core.val64 (FP.ddiv (FP.i2d (nI A)) (FP.i2d (nI B)))) := (Jvm.FP.Core.of64_val64 (by rw [v]; exact fun q => by cases q)).symm
  rw [e1, v]
  unfold Jvm.FP.Core.of64 Jvm.FP.Core.encode Jvm.FP.Core.assemble qn
  dsimp only
  rw [if_neg (show ¬ 2 ^ 52 + (t + if 2 * r ≤ B * 2 ^ e then 0 else 1) < Jvm.FP.Core.b64.tails from show ¬ _ < 2 ^ 52 by omega)]
  refine congrArg UInt64.ofNat ?_
  have a1 : ((e : Int) - 52 - Jvm.FP.Core.b64.qmin).toNat = e + 1022 := by
    show ((e : Int) - 52 - (-1074)).toNat = _
    omega
  rw [a1]
  show (0 * 2 ^ 11 + (e + 1022 + 1)) * 2 ^ 52 + (2 ^ 52 + _ - 2 ^ 52) = _
  rw [Nat.add_sub_cancel_left, Nat.zero_mul, Nat.zero_add, show e + 1022 + 1 = 1023 + e by omega]
theorem qfin {A B : Nat} {mm : zM} (h1 : 1 ≤ B) (h2 : B ≤ A) (hA : A < 4096) : zn64 (FP.ddiv (FP.i2d (nI A)) (FP.i2d (nI B))) = true ∧ fX9_quotientBits (nI A) (nI B) mm = some (zd2l (FP.ddiv (FP.i2d (nI A)) (FP.i2d (nI B)))) := by
  obtain ⟨q, eq, e, t, r, e1, e2, e3, e4, e5, e6⟩ := qbits (mm := mm) h1 h2 hA
  obtain ⟨f1, f2, f3⟩ := qref h1 hA e1 e2 e3 e4 e5
  have ql : qn (B * 2 ^ e) e t r < 1040 * 2 ^ 52 := by
    unfold qn
    split <;> omega
  rw [eq, e6]
  constructor
  · rw [f1]
    unfold zn64
    refine decide_eq_true (UInt64.le_iff_toNat_le.mpr ?_)
    rw [UInt64.toNat_and]
    refine Nat.le_trans Nat.and_le_left ?_
    have : (UInt64.ofNat (qn (B * 2 ^ e) e t r)).toNat = qn (B * 2 ^ e) e t r := UInt64.toNat_ofNat_of_lt (by show _ < 2 ^ 64; omega)
    rw [this]
    show _ ≤ 0x7ff0000000000000
    omega
  · congr 1
    unfold zd2l
    have o : FP.dcmp (FP.ddiv (FP.i2d (nI A)) (FP.i2d (nI B))) (FP.ddiv (FP.i2d (nI A)) (FP.i2d (nI B))) = some .eq := by
      show Jvm.FP.Core.order (Jvm.FP.Core.val64 (FP.ddiv (FP.i2d (nI A)) (FP.i2d (nI B)))) (Jvm.FP.Core.val64 (FP.ddiv (FP.i2d (nI A)) (FP.i2d (nI B)))) = _
      rw [f2]
      unfold Jvm.FP.Core.order
      dsimp only
      congr 1
      exact Std.ReflCmp.compare_self
    rw [o, if_pos (by decide), f1]
    rfl
theorem znan : zd2l 9221120237041090560 = 9221120237041090560 := by decide +kernel
theorem call_mean (v1 : Int32) : CALLl (fX9_mean v1) (fX10_mean v1) := fun c r hI => by
  obtain ⟨t, w, d, n, a, b, h, nx, hT, hW, hS, hH, hF⟩ := id hI
  have h12 := hW.n12
  unfold fX9_mean fX10_mean
  simp only [hW.1, hW.cTy, hW.rTy, Option.bind_some]
  by_cases t1 : zin v1 n = true ∧ gi r 38 0 (113 * zn v1) = 0
  rotate_left
  · rw [if_neg t1, if_pos (show (0 : Int32) = 0 from rfl), if_pos (show (0 : Int32) = 0 from rfl)]; exact ok2_some ⟨znan.symm, hI⟩
  rw [if_pos t1, if_neg n10, if_neg n10]
  obtain ⟨x, hx, rfl, hx3⟩ := zin_e t1.1
  refine ok2_bind (lay3 hI hW) (fun c1 r1 h1 => ?_)
  refine ok2_bind (P := fun o o' => ∃ A B c' r', o = Sum.inl (nI A, nI B, c') ∧ o' = Sum.inl (nI A, nI B, r') ∧ INV c' r' ∧ B ≤ A ∧ A ≤ 100 * 26) ?_ (fun o o' ho => ?_)
  · refine ok2_for (fun i s t => ∃ A B c' r', s = (nI A, nI B, nI i, c') ∧ t = (nI A, nI B, nI i, r') ∧ INV c' r' ∧ WLI w d n c' r' ∧ RFL n c' r' ∧ B ≤ A ∧ A ≤ 100 * i) (a := 0) (b := 26) (by omega) (by unfold zF; omega) (by unfold zF; omega) ⟨0, 0, _, _, rfl, rfl, h1.1, h1.2.1, h1.2.2.1, by omega, by omega⟩ (fun i s t _ hi hI2 => ?_) (fun s t hI2 => ?_)
    · obtain ⟨A, B, cc, rr, rfl, rfl, i4, i5, i6, i7, i8⟩ := hI2
      unfold fX9_mean_L26 fX10_mean_L26 fX10_mean_J58 fX10_mean_J73
      dsimp only
      rw [l26]
      refine ok2_fl (fun q => by have := (nIle (by omega) (by omega)).mp q; omega) (ok2_fr' (fun q => by have := (nIle (by omega) (by omega)).mp q; omega) ?_)
      refine ok2_bind (run2 i4 i5 i6 hx hi) (fun c2 b2 h2 => ?_)
      obtain ⟨p1, p2, p3, p4, -, -, -, -, -, ⟨k, k1, k2, k3, k4⟩, -⟩ := h2
      rw [p4, k2, k3, show fX10_truth 0 b2.2 = some 0 from rfl, show fX10_truth 1 b2.2 = some 1 from rfl, Option.bind_some, Option.bind_some, nI_add, nI_1, nI_1]
      simp only [Option.bind_some, Int32.add_zero]
      by_cases y : gi b2.2 10 0 23 = 0
      · have := k4 y
        rw [if_pos y, if_pos y, if_pos y]
        exact ok2_some (Or.inl ⟨_, _, rfl, rfl, A + k, B + 1, _, _, rfl, rfl, p1, p2, p3, by omega, by omega⟩)
      · rw [if_neg y, if_neg y, if_neg y]
        exact ok2_some (Or.inl ⟨_, _, rfl, rfl, A, B, _, _, rfl, rfl, p1, p2, p3, by omega, by omega⟩)
    · obtain ⟨A, B, cc, rr, rfl, rfl, i4, i5, i6, i7, i8⟩ := hI2
      unfold fX9_mean_L26 fX10_mean_L26
      dsimp only
      rw [l26, if_pos (Int32.le_refl _), if_pos (Int32.le_refl _)]
      exact ok2_some ⟨_, _, rfl, rfl, A, B, _, _, rfl, rfl, i4, i7, i8⟩
  · obtain ⟨A, B, c', r', rfl, rfl, hh, i7, i8⟩ := ho
    show ok2 (Option.bind (fX9_quotientBits (nI A) (nI B) c') _) (if nI B = 0 then fX10_mean_J99 9221120237041090560 r' else zob (zn64 (FP.ddiv (FP.i2d (nI A)) (FP.i2d (nI B)))) (fX10_mean_J99 (FP.ddiv (FP.i2d (nI A)) (FP.i2d (nI B))) r')) _
    by_cases z : B = 0
    · subst z
      rw [if_pos (show nI 0 = 0 from rfl)]
      unfold fX9_quotientBits fX10_mean_J99
      rw [if_pos (show nI 0 ≤ 0 from Int32.le_refl _), Option.bind_some]
      exact ok2_some ⟨znan.symm, hh⟩
    · obtain ⟨z1, z2⟩ := qfin (A := A) (B := B) (mm := c') (by omega) i7 (by omega)
      rw [if_neg (show ¬ nI B = 0 from fun q => z ((nIeq (b := 0) (by omega) (by omega)).mp q)), z2, zob_t _ z1, Option.bind_some]
      exact ok2_some ⟨rfl, hh⟩
