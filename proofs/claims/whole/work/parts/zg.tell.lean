/-! the loop over the units -/
section LX
variable {t : Nat} {T : Nat → Nat}
/-- how the reading ends -/
def END (t : Nat) (T : Nat → Nat) (d : Nat) (c r : zM) : Prop := (∃ q n, LC t T t q c ∧ LR t T t r ∧ DW d n c r) ∨ (∃ p, p < t ∧ gi c 4 0 5 = FL p 1 ∧ LR t T p r) ∨ ∃ F, gi c 4 0 5 = F ∧ F ≠ 0 ∧ WR t T F r
theorem loopU {d p q : Nat} {c r c0 r0 : zM} (hB : TB t T) (h : LC t T p q c) (hR : LR t T p r) (hW : DW d 0 c r) (hc : DF d c0 c) (hr : FS KRr r0 r) (f : Int32) (hf : (f = 1 ∧ p < t) ∨ (f = 0 ∧ p = t)) : ok2 (zloop fX4_read_36_L66 zF (f, 0, c)) (zloop fX10_tell_L33 zF (f, r)) (fun e e' => ∃ c' r', e = Sum.inl c' ∧ e' = Sum.inl r' ∧ DF d c0 c' ∧ FS KRr r0 r' ∧ END t T d c' r') := by
  have ht := hB.1
  refine ok2_loop (I := fun k s u => ∃ i c' r' f, s = (f, nI i, c') ∧ u = (f, r') ∧ DF d c0 c' ∧ FS KRr r0 r' ∧ ((f = 1 ∧ k = 14 - i ∧ i ≤ 12 ∧ ∃ p q, LC t T p q c' ∧ LR t T p r' ∧ DW d i c' r') ∨ (f = 0 ∧ k = 0 ∧ END t T d c' r'))) (fun k s u hI => ?_) zF zF (if f = 1 then 14 else 0) _ _ ?_ ?_ ?_
  · clear h hR hW hc hr hf f
    obtain ⟨i, c1, r1, f, rfl, rfl, hDF, hFR, hh⟩ := hI
    unfold fX4_read_36_L66 fX10_tell_L33
    dsimp only
    rcases hh with ⟨rfl, rfl, hi, p, q, h, hR, hW⟩ | ⟨rfl, rfl, hE⟩
    rotate_left
    · rw [if_pos (show (0 : Int32) = 0 from rfl), if_pos (show (0 : Int32) = 0 from rfl)]
      exact ok2_some (Or.inr ⟨_, _, rfl, rfl, c1, r1, rfl, rfl, hDF, hFR, hE⟩)
    rw [if_neg n10, if_neg n10, if_neg (show ¬ 12 < nI i from fun q => by have := (nIlt (a := 12) (by omega) (by omega)).mp q; omega)]
    refine ok2_bind (unit2 hB h hR hW) (fun a r2 h2 => ?_)
    obtain ⟨d1, d2, ⟨d3, p2, q2, l1, l2, l3⟩ | ⟨d3, p2, q2, l1, l2, l3, l4⟩ | ⟨d3, F, l1, l2, l3⟩⟩ := h2
    · have hK := l1.2.1
      have e1 : gi a.2 4 0 1 = nI t := l1.1.2.1
      have e2 : gi a.2 4 0 2 = nI p2 := l1.2.2.1
      rw [d3, if_neg n10, e1, e2]
      refine ok2_r (rSign hB (v := 59) l2 hK.1 (by omega)) (fun b hb => ?_)
      obtain ⟨s1, s2, s3⟩ := hb
      have hF3 : FS KRr r0 b.2 := FS_tr (FS_tr hFR d2) (krr s3 (by decide))
      have hC3 : DF d c0 a.2 := DF_tr hDF d1
      rw [nI_1]
      by_cases pt : p2 = t
      · have ns : ¬ sg t T p2 = 59 := fun w => by rw [sg_e (by omega)] at w; omega
        obtain ⟨u1, u2⟩ := s2 ns
        rw [if_pos (show nI t ≤ nI p2 by rw [pt]; exact Int32.le_refl _), u1]
        refine ok2_some (Or.inl ⟨_, _, 0, rfl, rfl, by omega, i + 1, a.2, b.2, 0, rfl, rfl, hC3, hF3, Or.inr ⟨rfl, rfl, Or.inl ⟨q2, i + 1, by rw [pt] at l1; exact l1, by rw [pt] at u2 hK; exact AR_LR u2 hK.2.2.1, DW_fs l3 (FS_refl _) (lxr s3 (by decide))⟩⟩⟩)
      · have lt : p2 < t := by have := hK.1; omega
        rw [if_neg (fun q => by have := (nIle (by omega) (by omega)).mp q; omega)]
        unfold fX4_readBreak
        rw [l1.2.2.2.2.1]
        by_cases y : sg t T p2 = 59
        · obtain ⟨u1, u2⟩ := s1 y
          obtain ⟨w1, w2⟩ := sg_1 hK y (by omega) (by omega) (by omega)
          rw [if_pos (show Cs (sg t T p2) = 59 from (Cs_v _ (sg_lt hB p2) 59 (by omega)).mpr y), u1]
          obtain ⟨c4, ec4, p4, q4, x1, x2, x3⟩ := pass_LC hB l1
          rw [ec4, Option.bind_some, Option.bind_some, if_neg n10]
          rw [w1] at x1
          have h12 := l3.2.2.2.1
          exact ok2_some (Or.inl ⟨_, _, 14 - (i + 1), rfl, rfl, by omega, i + 1, c4, b.2, 1, rfl, rfl, DF_tr hC3 (DF_lx (lxc x3 (by decide))), hF3, Or.inl ⟨rfl, rfl, h12, p4, q4, x2, ⟨p2 + 1, u2, x1⟩, DW_fs l3 (lxc x3 (by decide)) (lxr s3 (by decide))⟩⟩)
        · obtain ⟨u1, u2⟩ := s2 y
          rw [if_neg (show ¬ Cs (sg t T p2) = 59 from fun w => y ((Cs_v _ (sg_lt hB p2) 59 (by omega)).mp w)), show fX4_refuse 1 a.2 = some (0, wi a.2 4 0 5 (FL p2 1)) from cRef (v := 1) l1, Option.bind_some, zob_t _ (show zbo 0 = true by decide), Option.bind_some, if_pos (show (0 : Int32) = 0 from rfl), u1]
          exact ok2_some (Or.inl ⟨_, _, 0, rfl, rfl, by omega, i + 1, _, b.2, 0, rfl, rfl, DF_tr hC3 (DF_lx fRef.1), hF3, Or.inr ⟨rfl, rfl, Or.inr (Or.inl ⟨p2, lt, fRef.2, AR_LR u2 hK.2.2.1⟩)⟩⟩)
    · have e1 : gi a.2 4 0 1 = nI t := l1.1.2.1
      have e2 : gi a.2 4 0 2 = nI p2 := l1.2.2.1
      rw [d3, if_neg n10, e1, e2, if_neg (fun q => by have := (nIle (by omega) (by omega)).mp q; omega)]
      unfold fX4_readBreak
      rw [l1.2.2.2.2.1, if_neg (show ¬ Cs (sg t T p2) = 59 from fun w => l3 ((Cs_v _ (sg_lt hB p2) 59 (by omega)).mp w)), show fX4_refuse 1 a.2 = some (0, wi a.2 4 0 5 (FL p2 1)) from cRef (v := 1) l1, Option.bind_some, zob_t _ (show zbo 0 = true by decide), Option.bind_some, if_pos (show (0 : Int32) = 0 from rfl)]
      refine ok2_r (wSign (v := 59) l4) (fun b hb => ?_)
      rw [hb.1, nI_1]
      exact ok2_some (Or.inl ⟨_, _, 0, rfl, rfl, by omega, i + 1, _, b.2, 0, rfl, rfl, DF_tr (DF_tr hDF d1) (DF_lx fRef.1), FS_tr (FS_tr hFR d2) (krr hb.2.2 (by decide)), Or.inr ⟨rfl, rfl, Or.inr (Or.inr ⟨_, fRef.2, FL_0 hB (by omega) (by omega) (by omega), hb.2.1⟩)⟩⟩)
    · rw [d3, if_pos (show (0 : Int32) = 0 from rfl)]
      refine ok2_r (wSign (v := 59) l3) (fun b hb => ?_)
      rw [hb.1, nI_1]
      exact ok2_some (Or.inl ⟨_, _, 0, rfl, rfl, by omega, i + 1, _, b.2, 0, rfl, rfl, DF_tr hDF d1, FS_tr (FS_tr hFR d2) (krr hb.2.2 (by decide)), Or.inr ⟨rfl, rfl, Or.inr (Or.inr ⟨F, l1, l2, hb.2.1⟩)⟩⟩)
  · refine ⟨0, c, r, f, rfl, rfl, hc, hr, ?_⟩
    rcases hf with ⟨rfl, lt⟩ | ⟨rfl, pt⟩
    · exact Or.inl ⟨rfl, by rw [if_pos rfl], by omega, p, q, h, hR, hW⟩
    · subst pt
      exact Or.inr ⟨rfl, by rw [if_neg (by decide)], Or.inl ⟨q, 0, h, hR, hW⟩⟩
  · unfold zF; split <;> omega
  · unfold zF; split <;> omega
end LX
theorem i8t : ∀ k, k < 256 → (Int8.ofNat k).toInt32 = Cs k := by decide +kernel
theorem i8c (y : Int8) : y.toInt32 = Cs y.toBitVec.toNat := by
  have h := y.toBitVec.isLt
  have e : y = Int8.ofNat y.toBitVec.toNat := by
    apply Int8.toBitVec_inj.mp
    show y.toBitVec = BitVec.ofNat 8 y.toBitVec.toNat
    rw [BitVec.ofNat_toNat, BitVec.setWidth_eq]
  have := i8t y.toBitVec.toNat (by omega)
  rw [← e] at this
  exact this
/-- the bytes of the tape -/
def tb8 (c : zM) (i : Nat) : Nat := (gi c 36 0 i).toInt8.toBitVec.toNat
theorem tb8_lt (c : zM) (i : Nat) : tb8 c i < 256 := (gi c 36 0 i).toInt8.toBitVec.isLt
theorem tb8_e {c : zM} {i : Nat} (h : byt (gi c 36 0 i)) : gi c 36 0 i = Cs (tb8 c i) := by
  have := i8c (gi c 36 0 i).toInt8
  rw [show (gi c 36 0 i).toInt8.toInt32 = gi c 36 0 i from h] at this
  exact this
