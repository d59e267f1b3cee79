/-! readMembers -/
section LX
variable {t : Nat} {T : Nat → Nat}
def RM (t : Nat) (T : Nat → Nat) (d n : Nat) (c r : zM) (a : Int32 × zM) (r' : zM) : Prop := DF d c a.2 ∧ FS KRr r r' ∧ ((a.1 = 1 ∧ ∃ p q, LC t T p q a.2 ∧ LR t T p r' ∧ DU d n a.2 r') ∨ (a.1 = 1 ∧ ∃ p q, LC t T p q a.2 ∧ p < t ∧ sg t T p ≠ 59 ∧ WR t T (FL p 1) r') ∨ (a.1 = 0 ∧ ∃ F, gi a.2 4 0 5 = F ∧ F ≠ 0 ∧ WR t T F r'))
theorem w101 {v1 v2 v4 F : Int32} {r : zM} (h : WR t T F r) : fX10_readsOwns_J101 v1 v2 v4 r = some (.inr (.inr r)) := by
  unfold fX10_readsOwns_J101
  rw [h.no, Option.bind_some, if_pos rfl]
theorem members2 {d n p q : Nat} {c r : zM} (hB : TB t T) (h : LC t T p q c) (hR : AR t T q r) (hU : DU d n c r) (hO : OC n 0 r) : ok2 (fX4_readMembers (12 * d + n) c) (fX10_readsOwns (nI n) r) (RM t T d n c r) := by
  have ht := hB.1
  have hn := hU.2.2.2.1
  unfold fX4_readMembers fX10_readsOwns
  rw [l113, pk_mul, l64, nI_add]
  refine ok2_l (pass_LC hB h) (fun c0 h0 => ?_)
  obtain ⟨p0, q0, e0, e1, e2⟩ := h0
  have hU0 := DU_fs hU (lxc e2 (by decide)) (FS_refl r)
  refine ok2_bind (P := fun e e' => ∃ a r', e = Sum.inr a ∧ (e' = Sum.inl r' ∨ e' = Sum.inr r') ∧ RM t T d n c r a r') ?_ (fun e e' he => ?_)
  rotate_left
  · obtain ⟨a, r', rfl, rfl | rfl, hh⟩ := he
    · exact ok2_some hh
    · exact ok2_some hh
  refine ok2_ph (fun u e => u.1 = 0 ∧ e = Sum.inl u.2) (fun u e hu => by
    obtain ⟨u1, u2⟩ := u
    obtain ⟨hu1, hu2⟩ := hu
    dsimp only at hu1 hu2
    subst hu1; subst hu2
    unfold fX10_readsOwns_L10
    dsimp only
    rw [if_pos rfl]) (I := fun k s u => ∃ i p q c' r' f, k = 9 - i ∧ i ≤ 8 ∧ s = (nI i, c') ∧ u = (f, r') ∧ LC t T p q c' ∧ LR t T p r' ∧ DU d n c' r' ∧ OC n i r' ∧ DF d c c' ∧ FS KRr r r' ∧ ((f = 1 ∧ (i = 0 ∨ lw t T p)) ∨ (f = 0 ∧ 0 < i ∧ ¬ lw t T p))) (fun k s u hI => ?_) 9 zF zF (0, c0) (1, r) ⟨0, p0, q0, c0, r, 1, rfl, by omega, rfl, rfl, e1, ⟨q, hR, e0⟩, hU0, hO, DF_lx (lxc e2 (by decide)), FS_refl r, Or.inl ⟨rfl, Or.inl rfl⟩⟩ (by unfold zF; omega) (by unfold zF; omega)
  clear e0 e1 e2 hU0 h hR hU hO
  obtain ⟨i, p, q, c1, r1, fl, rfl, hi, rfl, rfl, h, hR, hU, hO, hDF, hFR, hf⟩ := hI
  have hK := h.2.1
  have hp := hK.1
  obtain ⟨m1, m2⟩ := cMember hB h
  unfold fX4_readMembers_L6 fX10_readsOwns_L10
  dsimp only
  refine ok2_fl (show ¬ 8 < nI i from fun q => by have := (nIlt (a := 8) (by omega) (by omega)).mp q; omega) ?_
  rcases hf with ⟨rfl, hw⟩ | ⟨rfl, i0, nl⟩
  rotate_left
  · rw [if_pos (show (0 : Int32) = 0 from rfl), m2 (fun y => nl y.1), Option.bind_some, if_pos (show (-1 : Int32) = -1 from rfl), if_pos (show 0 < nI i from (nIlt (a := 0) (by omega) (by omega)).mpr i0)]
    exact ok2_some (Or.inr (Or.inr ⟨_, _, rfl, rfl, _, _, rfl, Or.inl rfl, hDF, hFR, Or.inl ⟨rfl, p, q, h, hR, hU⟩⟩))
  rw [if_neg n10]
  refine ok2_r (rLetter hB hR hK) (fun b hb => ?_)
  obtain ⟨b1, b2, b3, b4⟩ := hb
  have hFb : FS KRr r b.2 := FS_tr hFR (krr b4 (by decide))
  by_cases y : lw t T p ∧ q = p + 1
  rotate_left
  · have hW := b2 y
    rw [m2 y, Option.bind_some, if_pos (show (-1 : Int32) = -1 from rfl), b3, wDup hn hW, Option.bind_some]
    show ok2 _ ((fX10_isRight b.2).bind _) _
    rw [hW.no, Option.bind_some, if_pos (show (0 : Int32) = 0 from rfl), w101 hW]
    by_cases i0 : i = 0
    · subst i0
      rw [if_neg (show ¬ 0 < nI 0 from fun q => Int32.lt_irrefl q), show (1 : Int32) = nI 1 from rfl, cRef h, Option.bind_some, if_pos (show (0 : Int32) = 0 from rfl)]
      exact ok2_some (Or.inr (Or.inr ⟨_, _, rfl, rfl, _, _, rfl, Or.inr rfl, DF_tr hDF (DF_lx fRef.1), hFb, Or.inr (Or.inr ⟨rfl, _, fRef.2, FL_0 hB hp (by omega) (by omega), hW⟩)⟩))
    · have yl : lw t T p := by
        rcases hw with w | w
        · exact absurd w i0
        · exact w
      have lt : p < t := by
        by_cases q : p < t
        · exact q
        · exact absurd yl (lw_e p (by omega))
      rw [if_pos (show 0 < nI i from (nIlt (a := 0) (by omega) (by omega)).mpr (by omega))]
      exact ok2_some (Or.inr (Or.inr ⟨_, _, rfl, rfl, _, _, rfl, Or.inr rfl, hDF, hFb, Or.inr (Or.inl ⟨rfl, p, q, h, lt, (fun w => by unfold lw at yl; omega), hW⟩)⟩))
  obtain ⟨v1, hA⟩ := b1 y
  have yl := y.1
  unfold lw at yl
  rw [m1 y, v1, Option.bind_some, if_neg (nIm1 (by omega)), b3]
  generalize hm' : sg t T p - 97 = m
  have hm : m < 26 := by omega
  have hOb : OC n i b.2 := OC_fs hO (lxr b4 (by decide))
  have hUb : DU d n c1 b.2 := DU_fs hU (FS_refl c1) (lxr b4 (by decide))
  have hz := tells_z hUb hOb hi hm
  rw [pX7_tells hm, Option.bind_some]
  refine ok2_r (rDup (m := m) hn hi hOb hA.2.1 (FL_ne hB hp (by omega))) (fun o ho => ?_)
  obtain ⟨r2, rfl, ⟨z1, rfl⟩ | ⟨z1, rfl⟩⟩ := ho
  rotate_left
  · have hW : WR t T (FL p 2) (wi b.2 10 0 9 (FL p 2)) := WR_of hB hA.1 hA.2.2 hK.2.1 hp (by omega)
    rw [if_neg (fun w => z1 (hz.mpr w)), if_neg n10]
    show ok2 _ ((fX10_isRight (wi b.2 10 0 9 (FL p 2))).bind _) _
    rw [hW.no, Option.bind_some, if_pos (show (0 : Int32) = 0 from rfl), w101 hW, show (2 : Int32) = nI 2 from rfl, cRef h, Option.bind_some]
    refine ok2_zl (show zbo 0 = true by decide) (ok2_some (Or.inr (Or.inr ⟨_, _, rfl, rfl, _, _, rfl, Or.inr rfl, DF_tr hDF (DF_lx fRef.1), ?_, Or.inr (Or.inr ⟨rfl, _, fRef.2, FL_0 hB hp (by omega) (by omega), hW⟩)⟩)))
    exact FS_tr hFb (krr (FS_wf (ks := [2009]) (by decide) (by decide) (FS_refl b.2)) (by decide))
  show ok2 _ ((fX10_isRight b.2).bind _) _
  have hO' : gi b.2 39 0 (113 * n + 64) = nI i := hOb
  rw [if_pos (hz.mp z1), if_pos (show (0 : Int32) = 0 from rfl), qRight hA.2.1, Option.bind_some, if_neg n10, zo _ (by omega) (by omega), zn_n (by omega), hO']
  by_cases i8 : i = 8
  · subst i8
    have hW : WR t T (FL p 3) (wi b.2 10 0 9 (FL p 3)) := WR_of hB hA.1 hA.2.2 hK.2.1 hp (by omega)
    rw [if_neg (show ¬ nI 8 < 8 from fun q => Int32.lt_irrefl q), if_pos (show nI 8 = 8 from rfl), show (3 : Int32) = nI 3 from rfl, cRef h, qFail hA.2.1, Option.bind_some, Option.bind_some, w101 hW]
    refine ok2_zl (show zbo 0 = true by decide) (ok2_some (Or.inr (Or.inr ⟨_, _, rfl, rfl, _, _, rfl, Or.inr rfl, DF_tr hDF (DF_lx fRef.1), ?_, Or.inr (Or.inr ⟨rfl, _, fRef.2, FL_0 hB hp (by omega) (by omega), hW⟩)⟩)))
    exact FS_tr hFb (krr (FS_wf (ks := [2009]) (by decide) (by decide) (FS_refl b.2)) (by decide))
  have i8' : i < 8 := by omega
  rw [if_pos (show nI i < 8 from (nIlt (b := 8) (by omega) (by omega)).mpr i8'), if_neg (show ¬ nI i = 8 from fun q => i8 ((nIeq (b := 8) (by omega) (by omega)).mp q)), pX7_require hm, if_pos (hz.mp z1), Option.bind_some]
  obtain ⟨k1, k2, k3⟩ := own_put hUb hOb i8' hm z1
  unfold fX10_readsOwns_J101
  rw [qRight hA.2.1, Option.bind_some, if_neg n10, zo _ (by omega) (by omega), zn_n (by omega), hO', qOwnAt, Option.bind_some, nI_1 (113 * n + (65 + 6 * i)), zo _ (by omega) (by omega), zo _ (by omega) (by omega), zo _ (by omega) (by omega), zo _ (by omega) (by omega), zn_n (by omega), zn_n (by omega), show 113 * n + (65 + 6 * i) + 1 = 113 * n + (66 + 6 * i) by omega, show gi (wi (wi b.2 39 0 (113 * n + (65 + 6 * i)) (nI m)) 39 0 (113 * n + (66 + 6 * i)) 0) 39 0 (113 * n + 64) = nI i by rw [gi_wi, if_neg (by omega), gi_wi, if_neg (by omega)]; exact hO', nI_1 i]
  generalize hc2 : wi (wi c1 7 (12 * d + n) 2 (gi c1 7 (12 * d + n) 2 + 1)) 32 (12 * d + n) m 0 = c2 at k1 k2 ⊢
  generalize hr2 : wi (wi (wi b.2 39 0 (113 * n + (65 + 6 * i)) (nI m)) 39 0 (113 * n + (66 + 6 * i)) 0) 39 0 (113 * n + 64) (nI (i + 1)) = r2 at k1 k3 ⊢
  have fc2 : FS [7, 32] c1 c2 := by rw [← hc2]; exact FS_wa (by decide) (by decide) (FS_wa (by decide) (by decide) (FS_refl c1))
  have fr2 : FS [39] b.2 r2 := by rw [← hr2]; exact FS_wa (by decide) (by decide) (FS_wa (by decide) (by decide) (FS_wa (by decide) (by decide) (FS_refl b.2)))
  have hFR2 : FS KRr r r2 := FS_tr hFb (krr fr2 (by decide))
  have hA2 := AR_fs hA fr2 (by decide)
  refine ok2_l (pass_LC hB (LC_fs h fc2 (by decide))) (fun c3 h3 => ?_)
  obtain ⟨p', q', e1, e2, e3⟩ := h3
  have hK' := e2.2.1
  have hC3 : DF d c c3 := DF_tr (DF_tr hDF k2) (DF_lx (lxc e3 (by decide)))
  refine ok2_r (rSign hB (v := 63) ⟨q, hA2, e1⟩ hK'.1 (by omega)) (fun b3 hb3 => ?_)
  obtain ⟨s1, s2, s3⟩ := hb3
  have hD3 : DU d n c3 b3.2 := DU_fs k1 (lxc e3 (by decide)) (lxr s3 (by decide))
  have hE3 : OE n i m 0 b3.2 := OE_fs k3 (lxr s3 (by decide))
  have hF3 : FS KRr r b3.2 := FS_tr hFR2 (krr s3 (by decide))
  rw [e2.2.2.2.2.1]
  by_cases y63 : sg t T p' = 63
  · obtain ⟨u1, u2⟩ := s1 y63
    obtain ⟨w1, w2⟩ := sg_1 hK' y63 (by omega) (by omega) (by omega)
    rw [if_neg (show ¬ Cs (sg t T p') = 61 from fun w => by have := (Cs_v _ (sg_lt hB p') 61 (by omega)).mp w; omega), u1, if_neg n10]
    unfold fX4_readMembers_J89 fX4_readMembers_J111
    rw [if_pos (show (0 : Int32) = 0 from rfl), e2.2.2.2.2.1, if_pos (show Cs (sg t T p') = 63 from (Cs_v _ (sg_lt hB p') 63 (by omega)).mpr y63)]
    refine ok2_l (pass_LC hB e2) (fun c4 h4 => ?_)
    obtain ⟨p4, q4, e4, e5, e6⟩ := h4
    rw [w1] at e4
    rw [if_pos (show (0 : Int32) = 0 from rfl), nI_1]
    refine ok2_of (ok_some rfl) (r178 (n := n) (v2 := nI (113 * n + 64)) hB ⟨p' + 1, u2, e4⟩ e5.2.1) (fun a e ha he => ?_)
    obtain ⟨fl, r5, rfl, hfl, hA5, f5⟩ := he
    subst ha
    refine Or.inl ⟨_, _, _, rfl, rfl, ?_, i + 1, p4, q4, c4, r5, fl, rfl, by omega, rfl, rfl, e5, AR_LR hA5 e5.2.1.2.2.1, DU_fs hD3 (lxc e6 (by decide)) (lxr f5 (by decide)), OC_fs (show OC n (i + 1) b3.2 from hE3.1) (lxr f5 (by decide)), DF_tr hC3 (DF_lx (lxc e6 (by decide))), FS_tr hF3 (krr f5 (by decide)), ?_⟩
    · omega
    · rcases hfl with ⟨w3, w4⟩ | ⟨w3, w4⟩
      · exact Or.inl ⟨w3, Or.inr w4⟩
      · exact Or.inr ⟨w3, by omega, w4⟩
  obtain ⟨u1, u2⟩ := s2 y63
  rw [u1, if_pos (show (0 : Int32) = 0 from rfl)]
  refine ok2_r (rMust hB (v := 61) (AR_LR u2 hK'.2.2.1) hK'.1 (by omega)) (fun r4 hr4 => ?_)
  obtain ⟨t1, t2, t3⟩ := hr4
  have hF4 : FS KRr r r4 := FS_tr hF3 (krr t3 (by decide))
  by_cases y61 : sg t T p' = 61
  rotate_left
  · have hW := t2 y61
    rw [if_neg (show ¬ Cs (sg t T p') = 61 from fun w => y61 ((Cs_v _ (sg_lt hB p') 61 (by omega)).mp w)), hW.no, Option.bind_some, if_pos (show (0 : Int32) = 0 from rfl), w178 hW]
    unfold fX4_readMembers_J89
    rw [if_pos (show (0 : Int32) = 0 from rfl), e2.2.2.2.2.1, if_neg (show ¬ Cs (sg t T p') = 63 from fun w => y63 ((Cs_v _ (sg_lt hB p') 63 (by omega)).mp w)), show (1 : Int32) = nI 1 from rfl, cRef e2, Option.bind_some]
    exact ok2_zl (show zbo 0 = true by decide) (ok2_some (Or.inr (Or.inl ⟨_, _, _, rfl, rfl, ⟨rfl, rfl⟩, _, _, rfl, Or.inl rfl, DF_tr hC3 (DF_lx fRef.1), hF4, Or.inr (Or.inr ⟨rfl, _, fRef.2, FL_0 hB hK'.1 (by omega) (by omega), hW⟩)⟩)))
  have hA4 := t1 y61
  obtain ⟨w1, w2⟩ := sg_1 hK' y61 (by omega) (by omega) (by omega)
  rw [if_pos (show Cs (sg t T p') = 61 from (Cs_v _ (sg_lt hB p') 61 (by omega)).mpr y61), qRight hA4.2.1, Option.bind_some, if_neg n10]
  unfold fX4_readMembers_J89 fX4_readMembers_J111
  rw [if_neg n10]
  refine ok2_l (pass_LC hB e2) (fun c4 h4 => ?_)
  obtain ⟨p4, q4, e4, e5, e6⟩ := h4
  rw [w1] at e4
  rw [if_neg n10]
  have hD4 : DU d n c4 r4 := DU_fs hD3 (lxc e6 (by decide)) (lxr t3 (by decide))
  refine ok2_bind (terms2 hB e5 ⟨p' + 1, hA4, e4⟩ hD4 (OE_fs hE3 (lxr t3 (by decide)))) (fun x7 r5 h7 => ?_)
  obtain ⟨d1, d2, ⟨d3, p6, q6, d4, d5, d6, j, d7⟩ | ⟨d3, F, d4, d5, d6⟩⟩ := h7
  · rw [d3, if_neg n10, nI_1]
    refine ok2_of (ok_some rfl) (r178 (n := n) (v2 := nI (113 * n + 64)) hB d5 d4.2.1) (fun a e ha he => ?_)
    obtain ⟨fl, r6, rfl, hfl, hA5, f5⟩ := he
    subst ha
    refine Or.inl ⟨_, _, _, rfl, rfl, ?_, i + 1, p6, q6, x7.2, r6, fl, rfl, by omega, rfl, rfl, d4, AR_LR hA5 d4.2.1.2.2.1, DU_fs d6 (FS_refl _) (lxr f5 (by decide)), OC_fs (show OC n (i + 1) r5 from d7.1) (lxr f5 (by decide)), DF_tr (DF_tr hC3 (DF_lx (lxc e6 (by decide)))) d1, FS_tr (FS_tr hF4 d2) (krr f5 (by decide)), ?_⟩
    · omega
    · rcases hfl with ⟨w3, w4⟩ | ⟨w3, w4⟩
      · exact Or.inl ⟨w3, Or.inr w4⟩
      · exact Or.inr ⟨w3, by omega, w4⟩
  · rw [d3, if_pos (show (0 : Int32) = 0 from rfl), w178 d6]
    exact ok2_some (Or.inr (Or.inl ⟨_, _, _, rfl, rfl, ⟨rfl, rfl⟩, _, _, rfl, Or.inl rfl, DF_tr (DF_tr hC3 (DF_lx (lxc e6 (by decide)))) d1, FS_tr hF4 d2, Or.inr (Or.inr ⟨rfl, F, d4, d5, d6⟩)⟩))
end LX
