/-! a member is sent, on both sides -/
def STt (w d n x : Nat) (c r : zM) : Prop := WLI w d n c r ∧ RFL n c r ∧ x < n ∧ gi c 6 0 3 = nI x ∧ gr c 6 0 = some w ∧ gr c 6 1 = some 0 ∧ gr c 6 2 = some 0 ∧ gi r 10 0 22 = nI x
def Sd (c r cm rm : zM) : Prop := FS [1604, 1605, 1606, 1607, 1608, 1609, 1610] c cm ∧ FS [2023, 2024, 2025, 2026, 2027, 2028] r rm ∧ (∃ k, k ≤ 100 ∧ gi cm 6 0 6 = nI k ∧ gi rm 10 0 24 = nI k) ∧ gi cm 6 0 4 = gi rm 10 0 23 ∧ gi cm 6 0 7 = gi rm 10 0 25 ∧ gi cm 6 0 8 = gi rm 10 0 26 ∧ gi cm 6 0 9 = gi rm 10 0 27 ∧ gi cm 6 0 10 = gi rm 10 0 28
def C1 (cm : zM) : Prop := ∃ k, 1 ≤ k ∧ k ≤ 100 ∧ gi cm 6 0 6 = nI k
def FsT (dd : Nat) (cm : zM) : Prop := (dd = 0 → gi cm 6 0 8 = -1) ∧ (0 < dd → gi cm 6 0 8 ≠ -1 ∧ C1 cm)
def RcOK (c r : zM) (dd : Nat) (rc rc' : Int32 → Int32 → Int32 → zM → Option (Int32 × zM)) : Prop := ∀ m fr cm rm, m < 26 → fr ≤ 12 → Sd c r cm rm → FsT dd cm → ok2 (rc (nI m) (nI fr) (nI dd) cm) (rc' (nI m) (nI fr) (nI dd) rm) (fun a b => a.1 = b.1 ∧ Sd c r a.2 b.2 ∧ (0 < dd → gi a.2 6 0 8 = gi cm 6 0 8) ∧ C1 a.2)
theorem Sd_stop {c r cm rm : zM} (h : Sd c r cm rm) (v z : Int32) : Sd c r (wi (wi cm 6 0 4 v) 6 0 9 z) (wi (wi rm 10 0 23 v) 10 0 27 z) := by
  obtain ⟨h1, h2, ⟨k, k1, k2, k3⟩, h3, h4, h5, h6, h7⟩ := h
  refine ⟨FS_wf (by decide) (by decide) (FS_wf (by decide) (by decide) h1), FS_wf (by decide) (by decide) (FS_wf (by decide) (by decide) h2), ⟨k, k1, ?_, ?_⟩, ?_, ?_, ?_, ?_, ?_⟩ <;> simp [gi_wi, k2, k3, h4, h5, h7]
theorem Sd_c {c r cm rm : zM} (h : Sd c r cm rm) (k i s : Nat) (hf : zisf k = false) (hk : k < 100) : gi cm k i s = gi c k i s := FSa h.1 i s hf (fun q => by simp at q; omega)
theorem Sd_r {c r cm rm : zM} (h : Sd c r cm rm) (k i s : Nat) (hf : zisf k = false) (hk : k < 100) : gi rm k i s = gi r k i s := FSa h.2.1 i s hf (fun q => by simp at q; omega)
section SE
variable {w d n x : Nat} {c r : zM}
theorem termsL {m k dd a b j cn : Nat} {rc rc' : Int32 → Int32 → Int32 → zM → Option (Int32 × zM)} {M M' : zM} (hrc : RcOK c r (dd + 1) rc rc') (hm : m < 26) (hk : k < 12) (ha : a < 12) (hb : b < 26) (hj : j < 8) (cn4 : cn ≤ 4) (e32 : gi c 32 (12 * w + a) b = nI cn) (e66 : gi r 38 0 (113 * a + (66 + 6 * j)) = nI cn) (et : ∀ i, i < cn → gi c 33 (12 * w + a) (4 * b + i) = gi r 38 0 (113 * a + (67 + 6 * j + i)) ∧ zin (gi r 38 0 (113 * a + (67 + 6 * j + i))) 1027 = true) (h : Sd c r M M') (hF : gi M 6 0 8 ≠ -1) (hC : C1 M) : ok2 (zloop (fX6_addTerms_L82 rc (nI m) (nI k) (nI dd) (12 * w + a) (nI b)) zF (0, 0, M)) (zloop (fX10_works_L78 rc' (nI m) (nI k) (nI dd) (nI (113 * a + (65 + 6 * j)))) zF (0, 0, M')) (fun o o' => ∃ s M2 M2', o = Sum.inl (s, M2) ∧ o' = Sum.inl (s, M2') ∧ Sd c r M2 M2' ∧ gi M2 6 0 8 = gi M 6 0 8 ∧ C1 M2) := by
  refine ok2_for (fun i s t => s.1 = t.1 ∧ s.2.1 = nI i ∧ t.2.1 = nI i ∧ Sd c r s.2.2 t.2.2 ∧ gi s.2.2 6 0 8 = gi M 6 0 8 ∧ C1 s.2.2) (a := 0) (b := cn) (by omega) (by unfold zF; omega) (by unfold zF; omega) ⟨rfl, rfl, rfl, h, rfl, hC⟩ (fun i s t _ hi hI => ?_) (fun s t hI => ?_)
  · obtain ⟨s1, s2, cc⟩ := s
    obtain ⟨t1, t2, rr⟩ := t
    obtain ⟨h1, h2, h3, h4, h5, h9⟩ := hI
    dsimp only at h1 h2 h3 h4 h5 h9
    subst h1; subst h2; subst h3
    have c32 : gi cc 32 (12 * w + a) b = nI cn := by rw [Sd_c h4 _ _ _ (by decide) (by omega)]; exact e32
    have c33 : gi cc 33 (12 * w + a) (4 * b + i) = gi r 38 0 (113 * a + (67 + 6 * j + i)) := by rw [Sd_c h4 _ _ _ (by decide) (by omega)]; exact (et i hi).1
    have r66 : gi rr 38 0 (113 * a + (66 + 6 * j)) = nI cn := by rw [Sd_r h4 _ _ _ (by decide) (by omega)]; exact e66
    have r67 : gi rr 38 0 (113 * a + (67 + 6 * j + i)) = gi r 38 0 (113 * a + (67 + 6 * j + i)) := Sd_r h4 _ _ _ (by decide) (by omega)
    obtain ⟨v, v1, v2, v3⟩ := zin_e (et i hi).2
    unfold fX6_addTerms_L82 fX10_works_L78
    dsimp only
    rw [zo _ (by omega) (by omega), zn_n (by omega), c32, nI_1 (113 * a + (65 + 6 * j)), zo _ (by omega) (by omega), zn_n (by omega), show 113 * a + (65 + 6 * j) + 1 = 113 * a + (66 + 6 * j) by omega, r66, pX7_termAt (by omega) hb, Option.bind_some, c33, v2, show nI (113 * a + (65 + 6 * j)) + 2 = nI (113 * a + (65 + 6 * j) + 2) from nI_add _ 2, nI_add, zo _ (by omega) (by omega), zn_n (by omega), show 113 * a + (65 + 6 * j) + 2 + i = 113 * a + (67 + 6 * j + i) by omega, r67, v2, h4.2.2.2.1, nI_1, nI_1, nI_1]
    refine ok2_fl (fun q => by have := (nIle (by omega) (by omega)).mp q; omega) (ok2_fr' (fun q => by have := (nIle (by omega) (by omega)).mp q; omega) ?_)
    refine ok2_if Iff.rfl (fun _ _ => ?_) (fun _ _ => ok2_some (Or.inr ⟨_, _, rfl, rfl, _, _, _, rfl, rfl, h4, h5, h9⟩))
    have hFs : FsT (dd + 1) cc := ⟨fun q => by omega, fun _ => ⟨by rw [h5]; exact hF, h9⟩⟩
    refine ok2_if Iff.rfl (fun q1 _ => ?_) (fun _ _ => ok2_some (Or.inl ⟨_, _, rfl, rfl, rfl, rfl, rfl, h4, h5, h9⟩))
    have q1' : 1000 ≤ v := (nIle (a := 1000) (by omega) (by omega)).mp q1
    refine ok2_if Iff.rfl (fun _ _ => ?_) (fun q2 _ => ?_)
    · refine ok2_bind (hrc m (k + 1) cc rr hm (by omega) h4 hFs) (fun x1 y1 hxy => ok2_some (Or.inl ⟨_, _, rfl, rfl, ?_, rfl, rfl, hxy.2.1, ?_, hxy.2.2.2⟩))
      · dsimp only
        rw [hxy.1]
      · dsimp only
        rw [hxy.2.2.1 (by omega)]; exact h5
    · have q2' : v ≠ 1000 := fun z => q2 (by rw [z]; rfl)
      rw [show nI v - 1001 = nI (v - 1001) from pk_sub (b := 1001) (by omega)]
      refine ok2_bind (hrc (v - 1001) 0 cc rr (by omega) (by omega) h4 hFs) (fun x1 y1 hxy => ok2_some (Or.inl ⟨_, _, rfl, rfl, ?_, rfl, rfl, hxy.2.1, ?_, hxy.2.2.2⟩))
      · dsimp only
        rw [hxy.1]
      · dsimp only
        rw [hxy.2.2.1 (by omega)]; exact h5
  · obtain ⟨s1, s2, cc⟩ := s
    obtain ⟨t1, t2, rr⟩ := t
    obtain ⟨h1, h2, h3, h4, h5, h9⟩ := hI
    dsimp only at h1 h2 h3 h4 h5 h9
    subst h1; subst h2; subst h3
    have c32 : gi cc 32 (12 * w + a) b = nI cn := by rw [Sd_c h4 _ _ _ (by decide) (by omega)]; exact e32
    have r66 : gi rr 38 0 (113 * a + (66 + 6 * j)) = nI cn := by rw [Sd_r h4 _ _ _ (by decide) (by omega)]; exact e66
    unfold fX6_addTerms_L82 fX10_works_L78
    dsimp only
    rw [zo _ (by omega) (by omega), zn_n (by omega), c32, nI_1 (113 * a + (65 + 6 * j)), zo _ (by omega) (by omega), zn_n (by omega), show 113 * a + (65 + 6 * j) + 1 = 113 * a + (66 + 6 * j) by omega, r66, if_pos (Int32.le_refl _), if_pos (Int32.le_refl _)]
    exact ok2_some ⟨_, _, rfl, rfl, _, _, _, rfl, rfl, h4, h5, h9⟩
theorem addT {m k dd t : Nat} {rc rc' : Int32 → Int32 → Int32 → zM → Option (Int32 × zM)} {cm rm : zM} (hS : STt w d n x c r) (hd : dd < 16) (hrc : RcOK c r (dd + 1) rc rc') (hm : m < 26) (hk : k < 12) (ht : t < n) (e17 : gi c 17 x k = nI t) (hkd : kdN c t m = 1) (h : Sd c r cm rm) (hF : FsT dd cm) (hC : C1 cm) : ok2 (fX6_addTerms rc (nI m) (nI k) (nI dd) cm) (fX10_works rc' (nI t) (nI m) (nI k) (nI dd) rm) (fun a b => a.1 = b.1 ∧ Sd c r a.2 b.2 ∧ (0 < dd → gi a.2 6 0 8 = gi cm 6 0 8) ∧ C1 a.2) := by
  obtain ⟨hW, hR, hx, s3, g0, g1, g2, t22⟩ := hS
  have h12 := hW.n12
  obtain ⟨h1, h2, ⟨kc, kc1, kc2, kc3⟩, h3, h4, h5, h6, h7⟩ := id h
  obtain ⟨kk, kk4, q1, q2, q3, -⟩ := hR.1 t m ht hm
  have ekk : kk = 1 := by
    have : kdN c t m = kk := by unfold kdN; rw [q1, zn_n (by omega)]
    omega
  obtain ⟨a, b, ha, hb, f1, f2, f3, f4⟩ := q3 (Or.inl ekk)
  obtain ⟨o, o8, oc, or', om, ol⟩ := hW.own ha
  have e64 : rR r 38 0 a 64 = nI o := by rw [rR_0 (by omega)]; exact or'
  obtain ⟨j, j1, j2⟩ := f4
  have j1' : zfd (fun k => gi r 38 0 (113 * a + (65 + 6 * k))) (nI b) o = some j := by
    rw [e64, zn_n (by omega)] at j1
    rw [← j1]
    exact zfd_cg (fun k hk => (rR_0 (by omega)).symm)
  have jo := (zfd_some j1').1
  obtain ⟨cn, cn4, e32, e66, et⟩ := (om b hb).2 j j1'
  have G2 : gr cm 6 2 = some 0 := (FSr h1 2 (by decide)).trans g2
  have G1 : gr cm 6 1 = some 0 := (FSr h1 1 (by decide)).trans g1
  have G0 : gr cm 6 0 = some w := (FSr h1 0 (by decide)).trans g0
  have c3 : gi cm 6 0 3 = nI x := (FSf h1 0 (by decide) (by decide)).trans s3
  have c17 : gi cm 17 x k = nI t := (Sd_c h _ _ _ (by decide) (by omega)).trans e17
  have fs : fX0_firstSource (nI t) (nI m) cm = some (nI (26 * a + b)) := by
    unfold fX0_firstSource
    rw [l26, pk_mul, nI_add, zo _ (by omega) (by omega), zn_n (by omega), Nat.mul_comm t 26, Sd_c h _ _ _ (by decide) (by omega), f1]
  have dv : nI (26 * a + b) / 26 = nI a := by rw [l26, pk_div (by omega) (by omega) (by omega), show (26 * a + b) / 26 = a by omega]
  have rmn : nI (26 * a + b) - nI a * 26 = nI b := by rw [l26, pk_mul, pk_sub (by omega), show 26 * a + b - a * 26 = b by omega]
  unfold fX6_addTerms
  rw [G2, G1, G0, zob_t _ (show (some 0 == some 0) = true from rfl), c3, zo _ (by omega) (by omega), zn_n (by omega), zo _ (by omega) (by omega), zn_n (by omega), zob_t _ (show (some 0 == some 0) = true from rfl), c17, fs, Option.bind_some, Option.bind_some, dv, rmn, zo _ (by omega) (by omega), zn_n (by omega), h7]
  have hs0 : ∃ s0, s0 = (if dd = 0 then nI t else gi cm 6 0 8) ∧ fX10_works rc' (nI t) (nI m) (nI k) (nI dd) rm = fX10_works_J17 rc' (nI t) (nI m) (nI k) (nI dd) s0 rm := by
    unfold fX10_works
    by_cases z : dd = 0
    · refine ⟨nI t, by rw [if_pos z], ?_⟩
      rw [← h5, if_pos (hF.1 z)]
    · refine ⟨gi cm 6 0 8, by rw [if_neg z], ?_⟩
      rw [← h5, if_neg (hF.2 (by omega)).1]
  obtain ⟨s0, es0, ew⟩ := hs0
  rw [ew]
  unfold fX10_works_J17
  have r44 : ∀ s, gi (wi rm 10 0 26 s0) 44 0 s = gi r 44 0 s := fun s => by rw [gi_wi, if_neg (by omega)]; exact Sd_r h _ _ _ (by decide) (by omega)
  have r38 : ∀ s, gi (wi rm 10 0 26 s0) 38 0 s = gi r 38 0 s := fun s => by rw [gi_wi, if_neg (by omega)]; exact Sd_r h _ _ _ (by decide) (by omega)
  have f2' : gi r 44 0 (5 * (26 * t + m) + 1) = nI a := f2
  have f3' : gi r 44 0 (5 * (26 * t + m) + 2) = nI b := f3
  have k28 : gi (wi rm 10 0 26 s0) 10 0 28 = gi rm 10 0 28 := by rw [gi_wi, if_neg (by omega)]
  rw [qFlatAt, Option.bind_some, Option.bind_some, nI_1, zo _ (by omega) (by omega), zn_n (by omega), show nI (5 * (26 * t + m)) + 2 = nI (5 * (26 * t + m) + 2) from nI_add _ 2, zo _ (by omega) (by omega), zn_n (by omega), r44, r44, f2', f3', qOwnOf (n := o) (by omega) (by rw [r38]; exact or') o8, Option.bind_some, zfd_cg (fun k hk => r38 _), j1', show zfx (some j) = nI j from rfl, qOwnAt, Option.bind_some, k28]
  have fin : ∀ M : zM, Sd c r M (wi (wi rm 10 0 26 s0) 10 0 28 (gi rm 10 0 28 ||| 1 <<< (nI a &&& 31))) → gi M 6 0 8 = s0 → C1 M → ok2 (fX6_addTerms_J76 rc (nI m) (nI k) (nI dd) (12 * w + a) (nI b) M) ((zloop (fX10_works_L78 rc' (nI m) (nI k) (nI dd) (nI (113 * a + (65 + 6 * j)))) zF (0, 0, wi (wi rm 10 0 26 s0) 10 0 28 (gi rm 10 0 28 ||| 1 <<< (nI a &&& 31)))).bind (fun o9 => zcase o9 (fun y7 => some ((y7.1, y7.2))) (fun r8 => r8.elim))) (fun a b => a.1 = b.1 ∧ Sd c r a.2 b.2 ∧ (0 < dd → gi a.2 6 0 8 = gi cm 6 0 8) ∧ C1 a.2) := fun M hM hM8 hMC => by
    unfold fX6_addTerms_J76
    have hne : gi M 6 0 8 ≠ -1 := by
      rw [hM8, es0]
      by_cases z : dd = 0
      · rw [if_pos z]; exact nIm1 (by omega)
      · rw [if_neg z]; exact (hF.2 (by omega)).1
    refine ok2_bind (termsL hrc hm hk (by omega) hb (by omega) cn4 e32 e66 et hM hne hMC) (fun o o' ho => ?_)
    obtain ⟨s, M2, M2', rfl, rfl, p1, p2, p3⟩ := ho
    refine ok2_some ⟨rfl, p1, fun z => ?_, p3⟩
    show gi M2 6 0 8 = _
    rw [p2, hM8, es0, if_neg (by omega)]
  by_cases z : dd = 0
  · rw [if_pos z] at es0
    rw [if_pos (by rw [z]; rfl)]
    refine fin _ ⟨FS_wf (by decide) (by decide) (FS_wf (by decide) (by decide) h1), FS_wf (by decide) (by decide) (FS_wf (by decide) (by decide) h2), ⟨kc, kc1, ?_, ?_⟩, ?_, ?_, ?_, ?_, ?_⟩ ?_ (by obtain ⟨k', a1, a2, a3⟩ := hC; exact ⟨k', a1, a2, by simp [gi_wi, a3]⟩) <;> simp [gi_wi, kc2, kc3, h3, h4, h6, es0]
  · rw [if_neg z] at es0
    rw [if_neg (show ¬ nI dd = 0 from fun q => z ((nIeq (b := 0) (by omega) (by omega)).mp q))]
    refine fin _ ⟨FS_wf (by decide) (by decide) h1, FS_wf (by decide) (by decide) (FS_wf (by decide) (by decide) h2), ⟨kc, kc1, ?_, ?_⟩, ?_, ?_, ?_, ?_, ?_⟩ ?_ (by obtain ⟨k', a1, a2, a3⟩ := hC; exact ⟨k', a1, a2, by simp [gi_wi, a3]⟩) <;> simp [gi_wi, kc2, kc3, h3, h4, h6, es0]
theorem lookS {dd : Nat} {rc rc' : Int32 → Int32 → Int32 → zM → Option (Int32 × zM)} (hS : STt w d n x c r) (hd : dd ≤ 16) (hrc : dd < 16 → RcOK c r (dd + 1) rc rc') : RcOK c r dd (fX6_lookFor rc) (fX10_calls rc') := by
  intro m fr cm rm hm hfr h hF
  obtain ⟨hW, hR, hx, s3, g0, g1, g2, t22⟩ := id hS
  have h12 := hW.n12
  obtain ⟨h1, h2, ⟨kc, kc1, kc2, kc3⟩, h3, h4, h5, h6, h7⟩ := id h
  unfold fX6_lookFor fX10_calls
  have stop5 : C1 cm → ok2 (fX6_lookFor_J15 rc (nI dd) cm) (fX10_calls_J15 rc' (nI dd) rm) (fun a b => a.1 = b.1 ∧ Sd c r a.2 b.2 ∧ (0 < dd → gi a.2 6 0 8 = gi cm 6 0 8) ∧ C1 a.2) := fun hC0 => by
    unfold fX6_lookFor_J15 fX10_calls_J15 fX6_stop fX10_ends
    rw [Option.bind_some, Option.bind_some]
    exact ok2_some ⟨rfl, Sd_stop h 5 (nI dd), fun _ => by simp [gi_wi], by obtain ⟨k', a1, a2, a3⟩ := hC0; exact ⟨k', a1, a2, by simp [gi_wi, a3]⟩⟩
  rw [show (16 : Int32) = nI 16 from rfl, show (100 : Int32) = nI 100 from rfl, kc2, kc3]
  by_cases z : dd = 16
  · rw [if_pos ((nIle (by omega) (by omega)).mpr (by omega)), if_pos (by rw [z])]
    exact stop5 (hF.2 (by omega)).2
  rw [if_neg (fun q => by have := (nIle (by omega) (by omega)).mp q; omega), if_neg (fun q => z ((nIeq (by omega) (by omega)).mp q))]
  by_cases z2 : kc = 100
  · rw [if_neg (fun q => by have := (nIlt (by omega) (by omega)).mp q; omega), if_pos (by rw [z2])]
    exact stop5 ⟨kc, by omega, kc1, kc2⟩
  rw [if_pos ((nIlt (by omega) (by omega)).mpr (by omega)), if_neg (fun q => z2 ((nIeq (by omega) (by omega)).mp q)), nI_1]
  have w7 : gi (wi cm 6 0 6 (nI (kc + 1))) 6 0 7 = gi cm 6 0 7 := by rw [gi_wi, if_neg (by omega)]
  have w25 : gi (wi rm 10 0 24 (nI (kc + 1))) 10 0 25 = gi cm 6 0 7 := by rw [gi_wi, if_neg (by omega)]; exact h4.symm
  rw [w7, w25]
  have hM : Sd c r (wi (wi cm 6 0 6 (nI (kc + 1))) 6 0 7 (if gi cm 6 0 7 < nI dd then nI dd else gi cm 6 0 7)) (wi (wi rm 10 0 24 (nI (kc + 1))) 10 0 25 (if gi cm 6 0 7 < nI dd then nI dd else gi cm 6 0 7)) := by
    refine ⟨FS_wf (by decide) (by decide) (FS_wf (by decide) (by decide) h1), FS_wf (by decide) (by decide) (FS_wf (by decide) (by decide) h2), ⟨kc + 1, by omega, ?_, ?_⟩, ?_, ?_, ?_, ?_, ?_⟩ <;> simp [gi_wi, h3, h5, h6, h7]
  have hMC : C1 (wi (wi cm 6 0 6 (nI (kc + 1))) 6 0 7 (if gi cm 6 0 7 < nI dd then nI dd else gi cm 6 0 7)) := ⟨kc + 1, by omega, by omega, by simp [gi_wi]⟩
  have hM8 : gi (wi (wi cm 6 0 6 (nI (kc + 1))) 6 0 7 (if gi cm 6 0 7 < nI dd then nI dd else gi cm 6 0 7)) 6 0 8 = gi cm 6 0 8 := by simp [gi_wi]
  generalize wi (wi cm 6 0 6 (nI (kc + 1))) 6 0 7 (if gi cm 6 0 7 < nI dd then nI dd else gi cm 6 0 7) = M at hM hM8 hMC
  generalize wi (wi rm 10 0 24 (nI (kc + 1))) 10 0 25 (if gi cm 6 0 7 < nI dd then nI dd else gi cm 6 0 7) = M' at hM
  have hFM : FsT dd M := ⟨fun q => by rw [hM8]; exact hF.1 q, fun q => ⟨by rw [hM8]; exact (hF.2 q).1, hMC⟩⟩
  have G2 : gr M 6 2 = some 0 := (FSr hM.1 2 (by decide)).trans g2
  have G1 : gr M 6 1 = some 0 := (FSr hM.1 1 (by decide)).trans g1
  have c3 : gi M 6 0 3 = nI x := (FSf hM.1 0 (by decide) (by decide)).trans s3
  have r22 : gi M' 10 0 22 = nI x := (FSf hM.2.1 0 (by decide) (by decide)).trans t22
  obtain ⟨L, L12, e1, e2, e3⟩ := hR.ln hx
  have c18 : gi M 18 0 x = nI L := (Sd_c hM _ _ _ (by decide) (by omega)).trans e1
  have r46 : gi M' 46 0 x = nI L := (Sd_r hM _ _ _ (by decide) (by omega)).trans e2
  have kcM : ∀ t m, t < n → m < 26 → fX0_kindOf (nI t) (nI m) M = some (nI (kdN c t m)) := fun t m ht hm => by
    unfold fX0_kindOf
    rw [l26, pk_mul, nI_add, zo _ (by omega) (by omega), zn_n (by omega), Nat.mul_comm t 26, Sd_c hM _ _ _ (by decide) (by omega), (hR.kd ht hm).2.1]
  have krM : ∀ t m, t < n → m < 26 → fX10_kindOf (nI t) (nI m) M' = some (nI (kdN c t m)) := fun t m ht hm => by
    unfold fX10_kindOf
    rw [qFlatAt, Option.bind_some, zo _ (by omega) (by omega), zn_n (by omega), Sd_r hM _ _ _ (by decide) (by omega), (hR.kd ht hm).2.2]
  refine ok2_bind (P := fun o o' => (∃ q, o = Sum.inl (q, M) ∧ o' = Sum.inl (q, M')) ∨ ∃ a b, o = Sum.inr a ∧ o' = Sum.inr b ∧ a.1 = b.1 ∧ Sd c r a.2 b.2 ∧ (0 < dd → gi a.2 6 0 8 = gi cm 6 0 8) ∧ C1 a.2) ?_ (fun o o' ho => ?_)
  · refine ok2_for (fun i s t => s.1 = t.1 ∧ (s.1 = 0 ∨ s.1 = 1) ∧ s.2 = (nI i, M) ∧ t.2 = (nI i, M')) (a := fr) (b := max fr L) (by omega) (by unfold zF; omega) (by unfold zF; omega) ⟨rfl, Or.inl rfl, rfl, rfl⟩ (fun i s t hi1 hi hI => ?_) (fun s t hI => ?_)
    · obtain ⟨s1, s2⟩ := s
      obtain ⟨t1, t2⟩ := t
      obtain ⟨i1, i2, i3, i4⟩ := hI
      dsimp only at i1 i2 i3 i4
      subst i1; subst i3; subst i4
      obtain ⟨t, t1, f1, f2⟩ := e3 i (by omega)
      have c17 : gi M 17 x i = nI t := (Sd_c hM _ _ _ (by decide) (by omega)).trans f1
      have r45 : gi M' 45 0 (12 * x + i) = nI t := (Sd_r hM _ _ _ (by decide) (by omega)).trans f2
      have k4 := (hR.kd t1 hm).1
      unfold fX6_lookFor_L50 fX10_calls_L51 fX10_calls_J102 fX10_calls_J107
      dsimp only
      rw [G2, G1, c3, r22, l12, pk_mul, nI_add]
      simp (disch := omega) only [zo, zn_n, zob_t _ (show (some 0 == some 0) = true from rfl)]
      rw [c18, r46, c17, r45, kcM t m t1 hm, krM t m t1 hm, Option.bind_some, Option.bind_some, nI_1]
      refine ok2_fl (fun q => by have := (nIle (by omega) (by omega)).mp q; omega) (ok2_fr' (fun q => by have := (nIle (by omega) (by omega)).mp q; omega) ?_)
      by_cases q1 : kdN c t m = 1
      · rw [q1]
        have e : (if s1 = 0 then if nI 1 = 2 then if nI 1 = 3 then (fX10_ends 3 (nI dd) M').bind fun x4 => some (Sum.inr (Sum.inr (0, x4)) : (Int32 × Int32 × zM) ⊕ ((Int32 × zM) ⊕ (Int32 × zM))) else if nI 1 = 1 then (fX10_works rc' (nI t) (nI m) (nI i) (nI dd) M').bind fun x3 => some (Sum.inr (Sum.inr (x3.1, x3.2))) else some (Sum.inl (1, nI (i + 1), M')) else if nI 1 = 3 then (fX10_ends 3 (nI dd) M').bind fun x4 => some (Sum.inr (Sum.inr (0, x4))) else if nI 1 = 1 then (fX10_works rc' (nI t) (nI m) (nI i) (nI dd) M').bind fun x3 => some (Sum.inr (Sum.inr (x3.1, x3.2))) else some (Sum.inl (0, nI (i + 1), M')) else if nI 1 = 3 then (fX10_ends 3 (nI dd) M').bind fun x4 => some (Sum.inr (Sum.inr (0, x4))) else if nI 1 = 1 then (fX10_works rc' (nI t) (nI m) (nI i) (nI dd) M').bind fun x3 => some (Sum.inr (Sum.inr (x3.1, x3.2))) else some (Sum.inl (1, nI (i + 1), M'))) = (fX10_works rc' (nI t) (nI m) (nI i) (nI dd) M').bind fun x3 => some (Sum.inr (Sum.inr (x3.1, x3.2))) := by
          simp (decide := true) only [if_true, if_false, ite_self]
        rw [e, if_pos (show nI 1 = 1 from rfl)]
        refine ok2_bind (addT hS (by omega) (hrc (by omega)) hm (by omega) t1 f1 q1 hM hFM hMC) (fun a1 b1 hab => ok2_some (Or.inr ⟨_, _, rfl, rfl, Or.inr ⟨_, _, rfl, rfl, hab.1, hab.2.1, fun q => ?_, hab.2.2.2⟩⟩))
        show gi a1.2 6 0 8 = _
        rw [hab.2.2.1 q, hM8]
      · by_cases q3 : kdN c t m = 3
        · rw [q3]
          unfold fX6_stop fX10_ends
          simp (decide := true) only [if_true, if_false, ite_self, Option.bind_some]
          exact ok2_some (Or.inr ⟨_, _, rfl, rfl, Or.inr ⟨_, _, rfl, rfl, rfl, Sd_stop hM 3 (nI dd), fun _ => by simp [gi_wi, hM8], by obtain ⟨k', a1, a2, a3⟩ := hMC; exact ⟨k', a1, a2, by simp [gi_wi, a3]⟩⟩⟩)
        · by_cases q2 : kdN c t m = 2
          · rw [q2]
            rcases i2 with rfl | rfl
            · simp (decide := true) only [if_true, if_false, ite_self]
              exact ok2_some (Or.inl ⟨_, _, rfl, rfl, rfl, Or.inr rfl, rfl, rfl⟩)
            · simp (decide := true) only [if_true, if_false, ite_self]
              exact ok2_some (Or.inl ⟨_, _, rfl, rfl, rfl, Or.inr rfl, rfl, rfl⟩)
          · have q0 : kdN c t m = 0 := by omega
            rw [q0]
            rcases i2 with rfl | rfl
            · simp (decide := true) only [if_true, if_false, ite_self]
              exact ok2_some (Or.inl ⟨_, _, rfl, rfl, rfl, Or.inl rfl, rfl, rfl⟩)
            · simp (decide := true) only [if_true, if_false, ite_self]
              exact ok2_some (Or.inl ⟨_, _, rfl, rfl, rfl, Or.inr rfl, rfl, rfl⟩)
    · obtain ⟨s1, s2⟩ := s
      obtain ⟨t1, t2⟩ := t
      obtain ⟨i1, i2, i3, i4⟩ := hI
      dsimp only at i1 i2 i3 i4
      subst i1; subst i3; subst i4
      unfold fX6_lookFor_L50 fX10_calls_L51
      dsimp only
      rw [G2, G1, c3, r22]
      simp (disch := omega) only [zo, zn_n, zob_t _ (show (some 0 == some 0) = true from rfl)]
      rw [c18, r46, if_pos ((nIle (by omega) (by omega)).mpr (by omega)), if_pos ((nIle (by omega) (by omega)).mpr (by omega))]
      exact ok2_some ⟨_, _, rfl, rfl, Or.inl ⟨s1, rfl, rfl⟩⟩
  · rcases ho with ⟨q, rfl, rfl⟩ | ⟨a, b, rfl, rfl, k1, k2, k3, k5⟩
    · show ok2 (if q = 0 then fX6_lookFor_J155 rc (nI dd) 1 M else fX6_lookFor_J155 rc (nI dd) 2 M) (if q = 0 then fX10_calls_J157 rc' (nI dd) 1 M' else fX10_calls_J157 rc' (nI dd) 2 M') _
      unfold fX6_lookFor_J155 fX10_calls_J157 fX6_stop fX10_ends
      refine ok2_if Iff.rfl (fun _ _ => ?_) (fun _ _ => ?_)
      · exact ok2_some ⟨rfl, Sd_stop hM 1 (nI dd), fun _ => by simp [gi_wi, hM8], by obtain ⟨k', a1, a2, a3⟩ := hMC; exact ⟨k', a1, a2, by simp [gi_wi, a3]⟩⟩
      · exact ok2_some ⟨rfl, Sd_stop hM 2 (nI dd), fun _ => by simp [gi_wi, hM8], by obtain ⟨k', a1, a2, a3⟩ := hMC; exact ⟨k', a1, a2, by simp [gi_wi, a3]⟩⟩
    · exact ok2_some ⟨k1, k2, k3, k5⟩
theorem look (hS : STt w d n x c r) : ∀ f dd, dd ≤ 16 → 17 ≤ f + dd → RcOK c r dd (fX6_lookFor_n f) (fX10_calls_n f)
  | 0, dd, h1, h2 => by omega
  | f + 1, dd, h1, h2 => lookS hS h1 (fun q => look hS f (dd + 1) (by omega) (by omega))
end SE
