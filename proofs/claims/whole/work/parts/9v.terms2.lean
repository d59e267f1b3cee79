/-! readTerms -/
section LX
variable {t : Nat} {T : Nat → Nat}
theorem lxr {r r' : zM} {ks : List Nat} (f : FS ks r r') (h : ks.all (fun k => [2008, 2009, 2010, 2011].contains k) = true) : FS [2008, 2009, 2010, 2011] r r' := FS_mono (zss h) f
theorem krr {r r' : zM} {ks : List Nat} (f : FS ks r r') (h : ks.all (fun k => KRr.contains k) = true) : FS KRr r r' := FS_mono (zss h) f
theorem lxc {c c' : zM} {ks : List Nat} (f : FS ks c c') (h : ks.all (fun k => [1402, 1403, 1404, 1405, 1406].contains k) = true) : FS [1402, 1403, 1404, 1405, 1406] c c' := FS_mono (zss h) f
theorem sg_1 {p q v : Nat} (hK : TOK t T p q) (h : sg t T p = v) (hv : v < 128) (h1 : ¬ (97 ≤ v ∧ v ≤ 122)) (h2 : ¬ (48 ≤ v ∧ v ≤ 57)) : q = p + 1 ∧ p < t := by
  have lt : p < t := by
    by_cases q : p < t
    · exact q
    · rw [sg_e (by omega)] at h; omega
  refine ⟨TOK_1 hK lt (fun w => ?_) (fun w => ?_), lt⟩
  · unfold lw at w; rw [h] at w; exact h1 w
  · unfold dg at w; rw [h] at w; exact h2 w
theorem rt_end {A : Int32} {r : zM} : fX10_readsTerms_L2 A (0, r) = some (.inr (.inl r)) := by
  unfold fX10_readsTerms_L2
  dsimp only
  rw [if_pos rfl]
theorem rt_w {A F : Int32} {r : zM} (h : WR t T F r) : ok (fX10_readsTerms_J85 A r) (fun o => ∃ r', o = .inl (0, r') ∧ WR t T F r' ∧ FS [2008] r r') := by
  unfold fX10_readsTerms_J85
  refine ok_bind (wSign (v := 43) h) (fun b hb => ?_)
  rw [hb.1]
  exact ok_some ⟨b.2, rfl, hb.2.1, hb.2.2⟩
theorem rt_w2 {A v F : Int32} {r : zM} (h : WR t T F r) : ok (fX10_readsTerms_J47 A v r) (fun o => ∃ r', o = .inl (0, r') ∧ WR t T F r' ∧ FS [2008] r r') := by
  unfold fX10_readsTerms_J47
  rw [h.no, Option.bind_some, if_pos rfl]
  exact rt_w h
theorem n4 {a : Nat} (h : a < 4) : nI a < 4 := (nIlt (b := 4) (by omega) (by omega)).mpr h
theorem terms2 {d n o m p q : Nat} {c r : zM} (hB : TB t T) (h : LC t T p q c) (hR : LR t T p r) (hU : DU d n c r) (hO : OE n o m 0 r) : ok2 (fX4_readTerms (12 * d + n) (nI m) c) (fX10_readsTerms (nI (113 * n + (65 + 6 * o))) r) (RD t T d n (fun r' => ∃ i, OE n o m i r') c r) := by
  have ht := hB.1
  have hn := hU.2.2.2.1
  have ho := hO.2.1
  have hm := hO.2.2.1
  unfold fX4_readTerms fX10_readsTerms
  refine ok2_bind (P := fun e e' => ∃ a r', e = Sum.inr a ∧ e' = Sum.inl r' ∧ RD t T d n (fun r' => ∃ i, OE n o m i r') c r a r') ?_ (fun e e' he => ?_)
  rotate_left
  · obtain ⟨a, r', rfl, rfl, hh⟩ := he
    exact ok2_some hh
  refine ok2_ph (fun u e => u.1 = 0 ∧ e = Sum.inl u.2) (fun u e hu => by obtain ⟨u1, u2⟩ := u; obtain ⟨hu1, hu2⟩ := hu; dsimp only at hu1 hu2; subst hu1; subst hu2; exact rt_end) (I := fun k s u => ∃ i p q c' r', k = 4 - i ∧ i ≤ 4 ∧ s = (nI i, c') ∧ u = (1, r') ∧ LC t T p q c' ∧ LR t T p r' ∧ DU d n c' r' ∧ OE n o m i r' ∧ DF d c c' ∧ FS KRr r r') (fun k s u hI => ?_) 4 zF zF (0, c) (1, r) ⟨0, p, q, c, r, rfl, by omega, rfl, rfl, h, hR, hU, hO, DF_refl c, FS_refl r⟩ (by unfold zF; omega) (by unfold zF; omega)
  obtain ⟨i, p, q, c1, r1, rfl, hi, rfl, rfl, h, hR, hU, hO, hDF, hFR⟩ := hI
  have hK := h.2.1
  have hp := hK.1
  unfold fX4_readTerms_L2 fX10_readsTerms_L2
  dsimp only
  rw [if_neg n10]
  refine ok2_fl (show ¬ 4 < nI i from fun q => by have := (nIlt (a := 4) (by omega) (by omega)).mp q; omega) ?_
  refine ok2_r (rNext hB hR hp) (fun b1 hb1 => ?_)
  obtain ⟨-, y1, y2⟩ := hb1
  refine ok2_bind (term2 hB h (AR_LR y1 hK.2.2.1)) (fun x b hb => ?_)
  obtain ⟨z1, z2⟩ := hb
  have g2 : FS [2008, 2009, 2010, 2011] r1 b.2 := FS_tr (lxr y2 (by decide)) (lxr z1 (by decide))
  have hO2 := OE_fs hO g2
  obtain ⟨o1, o2, o3, o4, o5⟩ := id hO2
  rcases z2 with ⟨v, v1, rfl, v3, hA⟩ | ⟨rfl, hW⟩ | ⟨rfl, hW⟩
  · rw [if_pos (nI_pos' (by omega)), v3, qRight hA.2.1, Option.bind_some, if_neg n10, nI_1 (113 * n + (65 + 6 * o)), zo _ (by omega) (by omega), zn_n (by omega), show 113 * n + (65 + 6 * o) + 1 = 113 * n + (66 + 6 * o) by omega, o5]
    by_cases i4 : i = 4
    · subst i4
      rw [if_neg (show ¬ nI 4 < 4 from fun q => Int32.lt_irrefl q), if_pos (show nI 4 = 4 from rfl), show (3 : Int32) = nI 3 from rfl, cRef h, y1.2.2, qFail hA.2.1, Option.bind_some, Option.bind_some]
      have hW : WR t T (FL p 3) (wi b.2 10 0 9 (FL p 3)) := WR_of hB hA.1 hA.2.2 hK.2.1 hp (by omega)
      refine ok2_zl (show zbo 0 = true by decide) (ok2_of (ok_some rfl) (rt_w2 hW) (fun a e ha he => ?_))
      obtain ⟨r', rfl, w1, w2⟩ := he
      subst ha
      refine Or.inr (Or.inl ⟨_, _, _, rfl, rfl, ⟨rfl, rfl⟩, _, _, rfl, rfl, DF_tr hDF (DF_lx fRef.1), ?_, Or.inr ⟨rfl, _, fRef.2, FL_0 hB hp (by omega) (by omega), w1⟩⟩)
      exact FS_tr (FS_tr hFR (krr g2 (by decide))) (FS_tr (krr (FS_wf (ks := [2009]) (by decide) (by decide) (FS_refl b.2)) (by decide)) (krr w2 (by decide)))
    · have i4' : i < 4 := by omega
      rw [if_pos (n4 i4'), if_neg (show ¬ nI i = 4 from fun q => i4 ((nIeq (b := 4) (by omega) (by omega)).mp q)), pX7_addTerm hm (OE_c hU hO) i4', Option.bind_some]
      obtain ⟨k1, k2, k3⟩ := term_put (DU_fs hU (FS_refl c1) g2) hO2 i4' v1
      unfold fX10_readsTerms_J47
      rw [qRight hA.2.1, Option.bind_some, if_neg n10, nI_1 (113 * n + (65 + 6 * o)), l2, nI_add, zo _ (by omega) (by omega), zn_n (by omega), show 113 * n + (65 + 6 * o) + 1 = 113 * n + (66 + 6 * o) by omega, o5, nI_add, zo _ (by omega) (by omega), zn_n (by omega), zo _ (by omega) (by omega), zo _ (by omega) (by omega), show 113 * n + (65 + 6 * o) + 2 + i = 113 * n + (67 + 6 * o + i) by omega, gi_wi, if_neg (by omega), o5, nI_1]
      generalize hc2 : wi (wi c1 33 (12 * d + n) (4 * m + i) (nI v)) 32 (12 * d + n) m (nI (i + 1)) = c2 at k1 k2 ⊢
      generalize hr2 : wi (wi b.2 39 0 (113 * n + (67 + 6 * o + i)) (nI v)) 39 0 (113 * n + (66 + 6 * o)) (nI (i + 1)) = r2 at k1 k3 ⊢
      have fc2 : FS [32, 33] c1 c2 := by rw [← hc2]; exact FS_wa (by decide) (by decide) (FS_wa (by decide) (by decide) (FS_refl c1))
      have fr2 : FS [39] b.2 r2 := by rw [← hr2]; exact FS_wa (by decide) (by decide) (FS_wa (by decide) (by decide) (FS_refl b.2))
      have hFR2 : FS KRr r r2 := FS_tr (FS_tr hFR (krr g2 (by decide))) (krr fr2 (by decide))
      have hA2 := AR_fs hA fr2 (by decide)
      refine ok2_l (pass_LC hB (LC_fs h fc2 (by decide))) (fun c3 h3 => ?_)
      obtain ⟨p', q', e1, e2, e3⟩ := h3
      have hK' := e2.2.1
      unfold fX10_readsTerms_J85
      refine ok2_r (rSign hB (v := 43) ⟨q, hA2, e1⟩ hK'.1 (by omega)) (fun b3 hb3 => ?_)
      obtain ⟨s1, s2, s3⟩ := hb3
      have hD3 : DU d n c3 b3.2 := DU_fs k1 (lxc e3 (by decide)) (lxr s3 (by decide))
      have hF3 : FS KRr r b3.2 := FS_tr hFR2 (krr s3 (by decide))
      have hC3 : DF d c c3 := DF_tr (DF_tr hDF k2) (DF_lx (lxc e3 (by decide)))
      rw [e2.2.2.2.2.1]
      by_cases y : sg t T p' = 43
      · obtain ⟨u1, u2⟩ := s1 y
        obtain ⟨w1, w2⟩ := sg_1 hK' y (by omega) (by omega) (by omega)
        rw [if_pos (show Cs (sg t T p') = 43 from (Cs_v _ (sg_lt hB p') 43 (by omega)).mpr y)]
        refine ok2_l (pass_LC hB e2) (fun c4 h4 => ?_)
        obtain ⟨p4, q4, e4, e5, e6⟩ := h4
        rw [u1]
        rw [w1] at e4
        exact ok2_some (Or.inl ⟨_, _, _, rfl, rfl, by omega, i + 1, p4, q4, c4, b3.2, rfl, by omega, rfl, rfl, e5, ⟨p' + 1, u2, e4⟩, DU_fs hD3 (lxc e6 (by decide)) (FS_refl _), OE_fs k3 (lxr s3 (by decide)), DF_tr hC3 (DF_lx (lxc e6 (by decide))), hF3⟩)
      · obtain ⟨u1, u2⟩ := s2 y
        rw [if_neg (show ¬ Cs (sg t T p') = 43 from fun w => y ((Cs_v _ (sg_lt hB p') 43 (by omega)).mp w)), u1]
        exact ok2_some (Or.inr (Or.inl ⟨_, _, _, rfl, rfl, ⟨rfl, rfl⟩, _, _, rfl, rfl, hC3, hF3, Or.inl ⟨rfl, p', q', e2, AR_LR u2 hK'.2.2.1, hD3, i + 1, OE_fs k3 (lxr s3 (by decide))⟩⟩))
  · rw [if_neg (show ¬ (0 : Int32) ≤ -2 by decide), if_pos (show (-2 : Int32) = -2 from rfl), hW.no, Option.bind_some, if_pos (show (0 : Int32) = 0 from rfl)]
    unfold fX4_readTerms_J31
    rw [show (2 : Int32) = nI 2 from rfl, cRef h, Option.bind_some]
    refine ok2_zl (show zbo 0 = true by decide) (ok2_of (ok_some rfl) (rt_w2 hW) (fun a e ha he => ?_))
    obtain ⟨r', rfl, w1, w2⟩ := he
    subst ha
    exact Or.inr (Or.inl ⟨_, _, _, rfl, rfl, ⟨rfl, rfl⟩, _, _, rfl, rfl, DF_tr hDF (DF_lx fRef.1), FS_tr (FS_tr hFR (krr g2 (by decide))) (krr w2 (by decide)), Or.inr ⟨rfl, _, fRef.2, FL_0 hB hp (by omega) (by omega), w1⟩⟩)
  · rw [if_neg (show ¬ (0 : Int32) ≤ -1 by decide), if_neg (show ¬ (-1 : Int32) = -2 by decide), hW.no, Option.bind_some, if_pos (show (0 : Int32) = 0 from rfl)]
    unfold fX4_readTerms_J31
    rw [show (1 : Int32) = nI 1 from rfl, cRef h, Option.bind_some]
    refine ok2_zl (show zbo 0 = true by decide) (ok2_of (ok_some rfl) (rt_w2 hW) (fun a e ha he => ?_))
    obtain ⟨r', rfl, w1, w2⟩ := he
    subst ha
    exact Or.inr (Or.inl ⟨_, _, _, rfl, rfl, ⟨rfl, rfl⟩, _, _, rfl, rfl, DF_tr hDF (DF_lx fRef.1), FS_tr (FS_tr hFR (krr g2 (by decide))) (krr w2 (by decide)), Or.inr ⟨rfl, _, fRef.2, FL_0 hB hp (by omega) (by omega), w1⟩⟩)
end LX
