/-! readTraits -/
section LX
variable {t : Nat} {T : Nat → Nat}
theorem traits2r {d n p q : Nat} {c r : zM} (hB : TB t T) (h : LC t T p q c) (hR : AR t T q r) (hU : DU d n c r) (hO : gi r 39 0 (113 * n + 7) = nI 0) : ok2 (fX4_readTraits (12 * d + n) c) (fX10_readsUses (nI n) r) (RD t T d n (fun r' => ∀ s, s < 113 * n + 7 ∨ 113 * n + 64 ≤ s → gi r' 39 0 s = gi r 39 0 s) c r) := by
  have ht := hB.1
  have hn := hU.2.2.2.1
  unfold fX4_readTraits fX10_readsUses
  rw [l113, pk_mul, l7, nI_add]
  refine ok2_l (pass_LC hB h) (fun c0 h0' => ?_)
  obtain ⟨p0, q0, e0, e1, e2⟩ := h0'
  have hU0 := DU_fs hU (lxc e2 (by decide)) (FS_refl r)
  refine ok2_bind (P := fun e e' => ∃ a r', e = Sum.inr a ∧ (e' = Sum.inl r' ∨ e' = Sum.inr r') ∧ RD t T d n (fun r' => ∀ s, s < 113 * n + 7 ∨ 113 * n + 64 ≤ s → gi r' 39 0 s = gi r 39 0 s) c r a r') ?_ (fun e e' he => ?_)
  rotate_left
  · obtain ⟨a, r', rfl, rfl | rfl, hh⟩ := he
    · exact ok2_some hh
    · exact ok2_some hh
  refine ok2_ph (fun u e => u.1 = 0 ∧ e = Sum.inl u.2) (fun u e hu => by
    obtain ⟨u1, u2⟩ := u
    obtain ⟨hu1, hu2⟩ := hu
    dsimp only at hu1 hu2
    subst hu1; subst hu2
    unfold fX10_readsUses_L10
    dsimp only
    rw [if_pos rfl]) (I := fun k s u => ∃ i p q c' r' f, k = 5 - i ∧ i ≤ 4 ∧ s = (nI i, c') ∧ u = (f, r') ∧ LC t T p q c' ∧ LR t T p r' ∧ DU d n c' r' ∧ gi r' 39 0 (113 * n + 7) = nI i ∧ (∀ s, s < 113 * n + 7 ∨ 113 * n + 64 ≤ s → gi r' 39 0 s = gi r 39 0 s) ∧ DF d c c' ∧ FS KRr r r' ∧ ((f = 1 ∧ (i = 0 ∨ (65 ≤ sg t T p ∧ sg t T p ≤ 90))) ∨ (f = 0 ∧ 0 < i ∧ ¬ (65 ≤ sg t T p ∧ sg t T p ≤ 90)))) (fun k s u hI => ?_) 5 zF zF (0, c0) (1, r) ⟨0, p0, q0, c0, r, 1, rfl, by omega, rfl, rfl, e1, ⟨q, hR, e0⟩, hU0, hO, fun s _ => rfl, DF_lx (lxc e2 (by decide)), FS_refl r, Or.inl ⟨rfl, Or.inl rfl⟩⟩ (by unfold zF; omega) (by unfold zF; omega)
  clear e0 e1 e2 hU0 h hR hU hO
  obtain ⟨i, p, q, c1, r1, fl, rfl, hi, rfl, rfl, h, hR, hU, hO, hS, hDF, hFR, hf⟩ := hI
  have hK := h.2.1
  have hp := hK.1
  obtain ⟨m1, m2⟩ := cName hB h
  unfold fX4_readTraits_L6 fX10_readsUses_L10
  dsimp only
  refine ok2_fl (show ¬ 4 < nI i from fun q => by have := (nIlt (a := 4) (by omega) (by omega)).mp q; omega) ?_
  rcases hf with ⟨rfl, hw⟩ | ⟨rfl, i0, nl⟩
  rotate_left
  · rw [if_pos (show (0 : Int32) = 0 from rfl), m2 nl, Option.bind_some, if_pos (show (-1 : Int32) = -1 from rfl), if_pos (show 0 < nI i from (nIlt (a := 0) (by omega) (by omega)).mpr i0)]
    exact ok2_some (Or.inr (Or.inr ⟨_, _, rfl, rfl, _, _, rfl, Or.inl rfl, hDF, hFR, Or.inl ⟨rfl, p, q, h, hR, hU, hS⟩⟩))
  have eU : fX10_useAt (nI n) 0 r1 = some (nI (113 * n + 8)) := qUseAt (u := n) (k := 0)
  rw [if_neg n10, eU, Option.bind_some, zo _ (by omega) (by omega), zn_n (by omega), hO]
  by_cases y : 65 ≤ sg t T p ∧ sg t T p ≤ 90
  rotate_left
  · have i0 : i = 0 := by
      rcases hw with w | w
      · exact w
      · exact absurd w y
    subst i0
    rw [m2 y, Option.bind_some, if_pos (show (-1 : Int32) = -1 from rfl), if_neg (show ¬ 0 < nI 0 from fun q => Int32.lt_irrefl q), show fX4_refuse 1 c1 = some (0, wi c1 4 0 5 (FL p 1)) from cRef (v := 1) h, Option.bind_some, if_pos (show (0 : Int32) = 0 from rfl)]
    refine ok2_r (rNamed_no hB hR hp y) (fun b hb => ?_)
    rw [hb.1.no, Option.bind_some, if_pos (show (0 : Int32) = 0 from rfl)]
    exact ok2_some (Or.inr (Or.inr ⟨_, _, rfl, rfl, _, _, rfl, Or.inr rfl, DF_tr hDF (DF_lx fRef.1), FS_tr hFR (krr hb.2 (by decide)), Or.inr ⟨rfl, _, fRef.2, FL_0 hB hp (by omega) (by omega), hb.1⟩⟩))
  have hP := hU.ru.2.2.1
  have r7 : rR r1 39 0 n 7 = nI i := by rw [rR_0 (by omega)]; exact hO
  rw [m1 y, Option.bind_some, if_neg (nIm1 (by omega))]
  show ok2 ((fX4_readOfRow (2 * (12 * d + n) + 1) (nI 1) c1).bind _) ((fX10_named (nI 1) (nI (113 * n + 8)) (nI 14) (nI i) r1).bind _) _
  refine ok2_bind (named2 (κ := 1) (base := 113 * n + 8) (st := 14) (k := i) (W := 2 * (12 * d + n) + 1) hB h hR hU y (by omega) hi (by rw [← uC_us, hP.2.1]; exact r7) (fun j hj => by
    have := (hP.2.2 j (by rw [r7, zn_n (by omega)]; exact hj)).2.1
    rw [uC_ui (by omega), rR_0 (by omega)] at this
    rw [this, show 113 * n + 8 + 14 * j = 113 * n + (8 + 14 * j) by omega]) (by omega)) (fun a b hb => ?_)
  obtain ⟨f1, f2, ⟨u, g1, g2, g3, g4, g5, g6, p', q', g7, g8⟩ | ⟨g1, F, g2, g3, g4⟩⟩ := hb
  rotate_left
  · rw [g1, if_pos (show (-1 : Int32) = -1 from rfl), g4.no, Option.bind_some, if_pos (show (0 : Int32) = 0 from rfl)]
    exact ok2_some (Or.inr (Or.inr ⟨_, _, rfl, rfl, _, _, rfl, Or.inr rfl, DF_tr hDF (DF_lx f1), FS_tr hFR (krr f2 (by decide)), Or.inr ⟨rfl, F, g2, g3, g4⟩⟩))
  have e39 : ∀ s, gi b.2 39 0 s = gi r1 39 0 s := fun s => FSa f2 0 s (by decide) (by decide)
  have hUb : DU d n a.2 b.2 := DU_fs hU f1 f2
  rw [g2, if_neg (nIm1 (by omega)), qRight g6.2.1, Option.bind_some, if_neg n10, g3]
  refine ok2_l (use_put hUb g5 (by rw [e39]; exact hO) g1 (by rw [e39]; exact g4)) (fun c2 hc2 => ?_)
  obtain ⟨k1, k2, fc2, k3, k4⟩ := hc2
  rw [zo _ (by omega) (by omega), e39, hO, qUseAt, Option.bind_some, nI_1 (113 * n + (8 + 14 * i)), zo _ (by omega) (by omega), zo _ (by omega) (by omega), zo _ (by omega) (by omega), zo _ (by omega) (by omega), zn_n (by omega), zn_n (by omega), show 113 * n + (8 + 14 * i) + 1 = 113 * n + (9 + 14 * i) by omega, show gi (wi (wi b.2 39 0 (113 * n + (8 + 14 * i)) (nI u)) 39 0 (113 * n + (9 + 14 * i)) 0) 39 0 (113 * n + 7) = nI i by rw [gi_wi, if_neg (by omega), gi_wi, if_neg (by omega), e39]; exact hO, nI_1 i]
  generalize hr2 : wi (wi (wi b.2 39 0 (113 * n + (8 + 14 * i)) (nI u)) 39 0 (113 * n + (9 + 14 * i)) 0) 39 0 (113 * n + 7) (nI (i + 1)) = r2 at k1 k3 k4 ⊢
  have fr2 : FS [39] b.2 r2 := by rw [← hr2]; exact FS_wa (by decide) (by decide) (FS_wa (by decide) (by decide) (FS_wa (by decide) (by decide) (FS_refl b.2)))
  have hL2 : LC t T p' q' c2 := LC_fs g8 fc2 (by decide)
  have hA2 := AR_fs g6 fr2 (by decide)
  have hK2 := g8.2.1
  have hDF2 : DF d c c2 := DF_tr (DF_tr hDF (DF_lx f1)) k2
  have hFR2 : FS KRr r r2 := FS_tr (FS_tr hFR (krr f2 (by decide))) (krr fr2 (by decide))
  refine ok2_r (rSign hB (v := 40) ⟨q, hA2, g7⟩ hK2.1 (by omega)) (fun b3 hb3 => ?_)
  obtain ⟨s1, s2, s3⟩ := hb3
  have hFR3 : FS KRr r b3.2 := FS_tr hFR2 (krr s3 (by decide))
  have hS3 : ∀ s, s < 113 * n + 7 ∨ 113 * n + 64 ≤ s → gi b3.2 39 0 s = gi r 39 0 s := fun s hs => by rw [FSa s3 0 s (by decide) (by decide), k4 s hs, e39, hS s hs]
  rw [hL2.2.2.2.2.1]
  by_cases s40 : sg t T p' = 40
  · obtain ⟨u1, u2⟩ := s1 s40
    obtain ⟨w1, w2⟩ := sg_1 hK2 s40 (by omega) (by omega) (by omega)
    rw [if_pos (show Cs (sg t T p') = 40 from (Cs_v _ (sg_lt hB p') 40 (by omega)).mpr s40), u1, if_neg n10]
    refine ok2_bind (changesL hB hL2 (by rw [w1]; exact u2) (DU_fs k1 (FS_refl _) (lxr s3 (by decide))) (CH_fs k3 (lxr s3 (by decide)))) (fun x5 o h5 => ?_)
    obtain ⟨r5, rfl, d1, d2, ⟨d3, p5, p6, q6, l1, l2, l3, l4, l5, l6, l7, l8⟩ | ⟨d3, F, d4, d5, d6⟩⟩ := h5
    rotate_left
    · rw [d3, if_pos (show (0 : Int32) = 0 from rfl)]
      show ok2 _ ((fX10_must 41 r5).bind _) _
      refine ok2_r (wMust (v := 41) d6) (fun r6 h6 => ?_)
      rw [w155 h6.1]
      exact ok2_some (Or.inr (Or.inl ⟨_, _, _, rfl, rfl, ⟨rfl, rfl⟩, _, _, rfl, Or.inl rfl, DF_tr hDF2 d1, FS_tr (FS_tr hFR3 d2) (krr h6.2 (by decide)), Or.inr ⟨rfl, F, d4, d5, h6.1⟩⟩))
    rw [d3, if_neg n10]
    show ok2 _ ((fX10_must 41 r5).bind _) _
    refine ok2_r (rMust hB (v := 41) l3 l2 (by omega)) (fun r6 h6 => ?_)
    obtain ⟨h61, -, h63⟩ := h6
    refine ok2_of (ok_some rfl) (r155 hB ⟨p5 + 1, h61 l1, l4⟩ l5.2.1.1) (fun a' e ha he => ?_)
    obtain ⟨fl, r7', rfl, hfl, hA5, f5⟩ := he
    subst ha
    refine Or.inl ⟨_, _, _, rfl, rfl, ?_, i + 1, p6, q6, x5.2, r7', fl, rfl, by omega, rfl, rfl, l5, AR_LR hA5 l5.2.1.2.2.1, DU_fs l6 (FS_refl _) (FS_tr (lxr h63 (by decide)) (lxr f5 (by decide))), ?_, fun s hs => ?_, DF_tr hDF2 d1, FS_tr (FS_tr hFR3 d2) (FS_tr (krr h63 (by decide)) (krr f5 (by decide))), ?_⟩
    · omega
    · rw [FSa f5 0 _ (by decide) (by decide), FSa h63 0 _ (by decide) (by decide)]; exact l7
    · rw [FSa f5 0 _ (by decide) (by decide), FSa h63 0 _ (by decide) (by decide), l8 s hs, hS3 s hs]
    · rcases hfl with ⟨w3, w4⟩ | ⟨w3, w4⟩
      · exact Or.inl ⟨w3, Or.inr w4⟩
      · exact Or.inr ⟨w3, by omega, w4⟩
  · obtain ⟨u1, u2⟩ := s2 s40
    rw [if_neg (show ¬ Cs (sg t T p') = 40 from fun w => s40 ((Cs_v _ (sg_lt hB p') 40 (by omega)).mp w)), u1, if_pos (show (0 : Int32) = 0 from rfl)]
    refine ok2_of (ok_some rfl) (r155 hB (AR_LR u2 hK2.2.2.1) hK2.1) (fun a' e ha he => ?_)
    obtain ⟨fl, r5, rfl, hfl, hA5, f5⟩ := he
    subst ha
    refine Or.inl ⟨_, _, _, rfl, rfl, ?_, i + 1, p', q', c2, r5, fl, rfl, by omega, rfl, rfl, hL2, AR_LR hA5 hK2.2.2.1, DU_fs k1 (FS_refl _) (FS_tr (lxr s3 (by decide)) (lxr f5 (by decide))), ?_, fun s hs => ?_, hDF2, FS_tr hFR3 (krr f5 (by decide)), ?_⟩
    · omega
    · rw [FSa f5 0 _ (by decide) (by decide), FSa s3 0 _ (by decide) (by decide)]; exact k3.1
    · rw [FSa f5 0 _ (by decide) (by decide), hS3 s hs]
    · rcases hfl with ⟨w3, w4⟩ | ⟨w3, w4⟩
      · exact Or.inl ⟨w3, Or.inr w4⟩
      · exact Or.inr ⟨w3, by omega, w4⟩
end LX
