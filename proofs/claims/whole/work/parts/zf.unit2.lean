/-! readUnit, from its first word -/
section LX
variable {t : Nat} {T : Nat → Nat}
theorem w58 {F v : Int32} {r : zM} (h : WR t T F r) : fX10_readsUnit_J58 v r = some r := by
  unfold fX10_readsUnit_J58 fX10_readsUnit_J72
  rw [h.no, Option.bind_some, if_pos rfl, qFailW h, Option.bind_some]
theorem zero113 {n : Nat} {v2 v3 : Int32} {r : zM} (hn : n < 12) : ok (zloop (fX10_readsUnit_L125 v2 v3 (nI (113 * n))) zF (0, r)) (fun o => ∃ r', o = Sum.inl r' ∧ FS [39] r r' ∧ ∀ s, gi r' 39 0 s = if 113 * n ≤ s ∧ s < 113 * n + 113 then 0 else gi r 39 0 s) := by
  refine ok_for (fun j s => s.1 = nI j ∧ FS [39] r s.2 ∧ ∀ x, gi s.2 39 0 x = if 113 * n ≤ x ∧ x < 113 * n + j then 0 else gi r 39 0 x) (a := 0) (b := 113) (by omega) (by unfold zF; omega) ⟨rfl, FS_refl r, fun x => by rw [if_neg (by omega)]⟩ (fun j s _ hj hI => ?_) (fun s hI => ?_)
  · obtain ⟨s1, s2⟩ := s
    obtain ⟨i1, i2, i3⟩ := hI
    dsimp only at i1 i2 i3
    subst i1
    unfold fX10_readsUnit_L125
    dsimp only
    rw [l113, if_neg (fun q => by have := (nIle (by omega) (by omega)).mp q; omega), nI_add, zo _ (by omega) (by omega), zn_n (by omega), nI_1]
    refine ok_some (Or.inl ⟨_, rfl, rfl, FS_wa (by decide) (by decide) i2, fun x => ?_⟩)
    dsimp only
    rw [gi_wi, i3]
    by_cases e : x = 113 * n + j
    · rw [if_pos ⟨rfl, rfl, e⟩, if_pos (by omega)]
    · rw [if_neg (fun q => e q.2.2)]
      by_cases e2 : 113 * n ≤ x ∧ x < 113 * n + j
      · rw [if_pos e2, if_pos (by omega)]
      · rw [if_neg e2, if_neg (by omega)]
  · obtain ⟨s1, s2⟩ := s
    obtain ⟨i1, i2, i3⟩ := hI
    dsimp only at i1 i2 i3
    subst i1
    unfold fX10_readsUnit_L125
    dsimp only
    rw [l113, if_pos (Int32.le_refl _)]
    exact ok_some ⟨_, rfl, s2, rfl, i2, i3⟩
/-- from the keyword on: κ 1 for a trait, 0 for a type -/
theorem unitA {d n p q κ : Nat} {c r : zM} (hB : TB t T) (h : LC t T p q c) (hR : AR t T q r) (hW : DW d n c r) (hκ : κ ≤ 1) : ok2 (fX4_readUnit_J26 (nI κ) c) (fX10_readsUnit_J39 (nI p) (nI (1 - κ)) r) (UR t T d n c r) := by
  have ht := hB.1
  have hK := h.2.1
  have h12 := hW.2.2.2.1
  have bad : ∀ {c' r' r'' : zM} {p' q' v : Nat}, LC t T p' q' c' → DF d c c' → FS KRr r r'' → 0 < v → v < 8 → WR t T (FL p' v) r'' → ok2 ((fX4_refuse (nI v) c').bind (fun x => zob (zbo x.1) (some (x.1, x.2)))) (some r'') (UR t T d n c r) := by
    intro c' r' r'' p' q' v h1 h2 h3 h4 h5 h6
    rw [cRef h1, Option.bind_some]
    exact ok2_zl (show zbo 0 = true by decide) (ok2_some ⟨DF_tr h2 (DF_lx fRef.1), h3, Or.inr (Or.inr ⟨rfl, _, fRef.2, FL_0 hB h1.2.1.1 h4 h5, h6⟩)⟩)
  unfold fX4_readUnit_J26 fX10_readsUnit_J39
  rw [hW.1, Option.bind_some, hW.2.1, n1356, hW.2.2.1]
  by_cases n12 : n = 12
  · subst n12
    rw [if_neg (show ¬ nI 12 < 12 from fun q => Int32.lt_irrefl q), if_pos (show nI 12 = 12 from rfl), show fX10_fails 3 (nI p) r = some (wi r 10 0 9 (FL p 3)) from qFail (v := 3) hR.2.1, Option.bind_some]
    have hw : WR t T (FL p 3) (wi r 10 0 9 (FL p 3)) := WR_of hB hR.1 hR.2.2 hK.2.1 hK.1 (by omega)
    have fW := FS_wf (v := FL p 3) (k := 10) (s := 9) (i := 0) (ks := [2009]) (by decide) (by decide) (FS_refl r)
    rw [w58 hw]
    exact bad (r' := r) (v := 3) h (DF_refl c) (krr fW (by decide)) (by omega) (by omega) hw
  have hn : n < 12 := by omega
  rw [if_pos (show nI n < 12 from (nIlt (b := 12) (by omega) (by omega)).mpr hn), if_neg (show ¬ nI n = 12 from fun q => n12 ((nIeq (b := 12) (by omega) (by omega)).mp q))]
  refine ok2_l (pass_LC hB h) (fun c1 h1 => ?_)
  obtain ⟨p1, q1, e1, e2, e3⟩ := h1
  have hK1 := e2.2.1
  have hW1 := DW_fs hW (lxc e3 (by decide)) (FS_refl r)
  unfold fX10_readsUnit_J58
  rw [qRight hR.2.1, Option.bind_some, if_neg n10]
  refine ok2_r (rCap hB ⟨q, hR, e1⟩ hK1.1) (fun b hb => ?_)
  obtain ⟨b1, b2, b3, b4⟩ := hb
  have hWb : DW d n c1 b.2 := DW_fs hW (lxc e3 (by decide)) (lxr b4 (by decide))
  obtain ⟨m1, m2⟩ := cName hB e2
  by_cases y : 65 ≤ sg t T p1 ∧ sg t T p1 ≤ 90
  rotate_left
  · rw [m2 y, Option.bind_some, if_pos (show (-1 : Int32) = -1 from rfl), b2 y, if_pos (show (0 : Int32) = 0 from rfl)]
    unfold fX10_readsUnit_J72
    rw [b3.2.2, show fX10_fails 1 (nI p1) b.2 = some (wi b.2 10 0 9 (FL p1 1)) from qFail (v := 1) b3.2.1, Option.bind_some]
    have fW := FS_wf (v := FL p1 1) (k := 10) (s := 9) (i := 0) (ks := [2009]) (by decide) (by decide) (FS_refl b.2)
    exact bad (r' := r) (v := 1) e2 (DF_lx (lxc e3 (by decide))) (FS_tr (krr b4 (by decide)) (krr fW (by decide))) (by omega) (by omega) (WR_of hB b3.1 b3.2.2 hK1.1 hK1.1 (by omega))
  obtain ⟨w1, w2⟩ := sg_1 hK1 (v := sg t T p1) rfl (by omega) (by omega) (by omega)
  rw [m1 y, Option.bind_some, if_neg (nIm1 (by omega)), hW1.1, Option.bind_some, b1 y, if_neg n10, qSign hB b3.1 b3.2.2 hK1.1, Option.bind_some, (Rs_v _ (sg_lt hB p1) (sg t T p1) (by omega)).mpr rfl, show nI (sg t T p1) - 65 = nI (sg t T p1 - 65) from pk_sub (b := 65) y.1]
  obtain ⟨o, o1, o2, o3⟩ := idxW hWb (nI (sg t T p1 - 65))
  rw [o1, o2, Option.bind_some, Option.bind_some]
  rcases o with _ | u
  rotate_left
  · have hu := o3 u rfl
    rw [if_neg (show ¬ zfx (some u) = -1 from nIm1 (by omega)), if_neg (show ¬ zfx (some u) = -1 from nIm1 (by omega)), b3.2.2, show fX10_fails 2 (nI p1) b.2 = some (wi b.2 10 0 9 (FL p1 2)) from qFail (v := 2) b3.2.1, Option.bind_some]
    have fW := FS_wf (v := FL p1 2) (k := 10) (s := 9) (i := 0) (ks := [2009]) (by decide) (by decide) (FS_refl b.2)
    exact bad (r' := r) (v := 2) e2 (DF_lx (lxc e3 (by decide))) (FS_tr (krr b4 (by decide)) (krr fW (by decide))) (by omega) (by omega) (WR_of hB b3.1 b3.2.2 hK1.1 hK1.1 (by omega))
  rw [if_pos (show zfx none = -1 from rfl), if_pos (show zfx none = -1 from rfl), n1356, hWb.2.2.1]
  refine ok2_l (pass_LC hB e2) (fun c2 h2 => ?_)
  obtain ⟨p2, q2, x1, x2, x3⟩ := h2
  have hK2 := x2.2.1
  have hW2 : DW d n c2 b.2 := DW_fs hWb (lxc x3 (by decide)) (FS_refl _)
  rw [hW2.1, Option.bind_some, Option.bind_some, hW2.2.1, zo _ hn (by omega), zn_n (by omega)]
  rw [show (113 : Int32) * nI n = nI (113 * n) from pk_mul 113 n]
  refine ok2_r (zero113 hn) (fun o ho => ?_)
  obtain ⟨r3, rfl, fr3, gr3⟩ := ho
  have hA3 := AR_fs b3 fr3 (by decide)
  generalize hl : sg t T p1 - 65 = l
  have hl26 : l < 26 := by omega
  -- the reference's row is begun
  have eJ : (zcase (Sum.inl r3 : zM ⊕ Empty) (fun y8 => if nI (1 - κ) = 0 then fX10_readsUnit_J166 (nI (1 - κ)) (nI n) (nI (113 * n)) 1 (nI (113 * n) + 0) y8 else fX10_readsUnit_J166 (nI (1 - κ)) (nI n) (nI (113 * n)) 0 (nI (113 * n) + 0) y8) (fun r9 => r9.elim) : Option zM) = fX10_readsUnit_J166 (nI (1 - κ)) (nI n) (nI (113 * n)) (nI κ) (nI (113 * n)) r3 := by
    show (if nI (1 - κ) = 0 then fX10_readsUnit_J166 (nI (1 - κ)) (nI n) (nI (113 * n)) 1 (nI (113 * n) + 0) r3 else fX10_readsUnit_J166 (nI (1 - κ)) (nI n) (nI (113 * n)) 0 (nI (113 * n) + 0) r3) = _
    rw [Int32.add_zero]
    rcases Nat.lt_or_ge κ 1 with w | w
    · have : κ = 0 := by omega
      subst this
      rw [if_neg (show ¬ nI (1 - 0) = 0 from n10)]
      rfl
    · have : κ = 1 := by omega
      subst this
      rw [if_pos (show nI (1 - 1) = 0 from rfl)]
      rfl
  show ok2 _ (zcase (Sum.inl r3 : zM ⊕ Empty) (fun y8 => if nI (1 - κ) = 0 then fX10_readsUnit_J166 (nI (1 - κ)) (nI n) (nI (113 * n)) 1 (nI (113 * n) + 0) y8 else fX10_readsUnit_J166 (nI (1 - κ)) (nI n) (nI (113 * n)) 0 (nI (113 * n) + 0) y8) (fun r9 => r9.elim) : Option zM) _
  rw [eJ]
  have et : fX10_truth (nI κ) r3 = some (nI κ) := by
    unfold fX10_truth
    rcases Nat.lt_or_ge κ 1 with w | w
    · have : κ = 0 := by omega
      subst this
      rfl
    · have : κ = 1 := by omega
      subst this
      rfl
  unfold fX10_readsUnit_J166
  rw [et, Option.bind_some, zo _ (by omega) (by omega), zn_n (by omega)]
  have f4 := FS_wa (v := nI κ) (k := 39) (s := 113 * n) (i := 0) (ks := [39]) (by decide) (by decide) (FS_refl r3)
  have hA4 := AR_fs hA3 f4 (by decide)
  rw [qSign hB hA4.1 hA4.2.2 hK1.1, Option.bind_some, (Rs_v _ (sg_lt hB p1) (sg t T p1) (by omega)).mpr rfl, show nI (sg t T p1) - 65 = nI (sg t T p1 - 65) from pk_sub (b := 65) y.1, hl, nI_1 (113 * n), zo _ (by omega) (by omega), zn_n (by omega)]
  generalize hr5 : wi (wi r3 39 0 (113 * n) (nI κ)) 39 0 (113 * n + 1) (nI l) = r5
  have f5 : FS [39] b.2 r5 := by rw [← hr5]; exact FS_wa (by decide) (by decide) (FS_wa (by decide) (by decide) fr3)
  have hA5 := AR_fs b3 f5 (by decide)
  have gr5 : ∀ s, gi r5 39 0 s = if s = 113 * n + 1 then nI l else if s = 113 * n then nI κ else gi r3 39 0 s := fun s => by
    rw [← hr5, gi_wi]
    by_cases z1 : s = 113 * n + 1
    · rw [if_pos ⟨rfl, rfl, z1⟩, if_pos z1]
    · rw [if_neg (fun q => z1 q.2.2), if_neg z1, gi_wi]
      by_cases z2 : s = 113 * n
      · rw [if_pos ⟨rfl, rfl, z2⟩, if_pos z2]
      · rw [if_neg (fun q => z2 q.2.2), if_neg z2]
  rw [hA5.2.2, nI_1 p1]
  generalize hr6 : wi r5 10 0 8 (nI (p1 + 1)) = r6
  have f6 : FS [2008] r5 r6 := by rw [← hr6]; exact FS_wf (by decide) (by decide) (FS_refl r5)
  have hA6 : AR t T q1 r6 := ⟨TR_fs hA5.1 f6 (by decide), by rw [FSf f6 0 (by decide) (by decide)]; exact hA5.2.1, by rw [← hr6, gi_wi, if_pos ⟨rfl, rfl, rfl⟩, w1]⟩
  have e39 : ∀ s, gi r6 39 0 s = gi r5 39 0 s := fun s => FSa f6 0 s (by decide) (by decide)
  have cells : ∀ s, s < 113 → gi r6 39 0 (113 * n + s) = if s = 0 then nI κ else if s = 1 then nI l else 0 := fun s hs => by
    rw [e39, gr5]
    by_cases z1 : s = 1
    · rw [if_pos (by omega), if_neg (by omega), if_pos z1]
    · rw [if_neg (by omega)]
      by_cases z0 : s = 0
      · rw [if_pos (by omega), if_pos z0]
      · rw [if_neg (by omega), if_neg z0, if_neg z1, gr3, if_pos (by omega)]
  have hFR6 : FS KRr r r6 := FS_tr (krr b4 (by decide)) (FS_tr (krr f5 (by decide)) (krr f6 (by decide)))
  refine ok2_l (unit_put hW2 hn hκ hl26 (r' := r6) (fun s hs => by rw [e39, gr5, if_neg (by omega), if_neg (by omega), gr3, if_neg (by omega)]) cells) (fun c3 h3 => ?_)
  obtain ⟨k1, k2, fc3⟩ := h3
  have hL3 : LC t T p2 q2 c3 := LC_fs x2 fc3 (by decide)
  have hDF3 : DF d c c3 := DF_tr (DF_lx (FS_tr (lxc e3 (by decide)) (lxc x3 (by decide)))) k2
  have hLR6 : LR t T p2 r6 := ⟨q1, hA6, x1⟩
  have z7 : gi r6 39 0 (113 * n + 7) = nI 0 := by rw [cells 7 (by omega)]; rfl
  have z64 : OC n 0 r6 := by show gi r6 39 0 (113 * n + 64) = nI 0; rw [cells 64 (by omega)]; rfl
  rcases Nat.lt_or_ge κ 1 with w | w
  rotate_left
  · have : κ = 1 := by omega
    subst this
    rw [if_neg (show ¬ nI 1 = 0 from n10), if_pos (show nI (1 - 1) = 0 from rfl)]
    exact ok2_mono (unitB hB hL3 hLR6 k1 z7 z64) (fun a r' hh => UR_tr hh hDF3 hFR6)
  · have : κ = 0 := by omega
    subst this
    rw [if_pos (show nI 0 = 0 from rfl), if_neg (show ¬ nI (1 - 0) = 0 from n10)]
    refine ok2_l (pX4_isWord hB hL3.1 hL3.2.2.1 hL3.2.2.2.1 hK2 (TOK_le hK2) (k := 2) (by omega)) (fun x hx => ?_)
    refine ok2_r (rTakes hB hLR6 hK2 (k := 2) (by omega)) (fun b7 hb7 => ?_)
    obtain ⟨v1, v2, v3⟩ := hb7
    have hU7 : DU d n c3 b7.2 := DU_fs k1 (FS_refl _) (lxr v3 (by decide))
    have e7 : ∀ s, gi b7.2 39 0 s = gi r6 39 0 s := fun s => FSa v3 0 s (by decide) (by decide)
    by_cases yo : q2 - p2 = zlen.getD 2 0 ∧ Wd T 2 p2
    · obtain ⟨u1, u2⟩ := v1 yo
      rw [hx.1 yo, if_neg n10, u1, if_neg n10]
      refine ok2_bind (parents2 hB hL3 u2 hU7 (by rw [e7]; exact cells 0 (by omega)) (by rw [e7, cells 2 (by omega)]; rfl)) (fun x16 r8 h16 => ?_)
      obtain ⟨d1, d2, ⟨d3, p8, q8, l1, l2, l3, l4⟩ | ⟨d3, F, l1, l2, l3⟩⟩ := h16
      · rw [d3, if_neg n10]
        refine ok2_mono (unitB hB l1 l2 l3 (by rw [l4 _ (by omega), e7]; exact z7) (show gi r8 39 0 (113 * n + 64) = nI 0 by rw [l4 _ (by omega), e7]; exact z64)) (fun a r' hh => UR_tr hh (DF_tr hDF3 d1) (FS_tr (FS_tr hFR6 (krr v3 (by decide))) d2))
      · rw [d3, if_pos (show (0 : Int32) = 0 from rfl)]
        unfold fX4_readUnit_J134
        rw [if_pos (show (0 : Int32) = 0 from rfl), bad163]
        refine ok2_of (ok_some rfl) (w215 hB l3) (fun a r3 ha hr => ?_)
        subst ha
        exact ⟨DF_tr hDF3 d1, FS_tr (FS_tr (FS_tr hFR6 (krr v3 (by decide))) d2) hr.2, Or.inr (Or.inr ⟨rfl, F, l1, l2, hr.1⟩)⟩
    · obtain ⟨u1, u2⟩ := v2 yo
      rw [hx.2 yo, if_pos (show (0 : Int32) = 0 from rfl), u1, if_pos (show (0 : Int32) = 0 from rfl)]
      exact ok2_mono (unitB hB hL3 (AR_LR u2 hK2.2.2.1) hU7 (by rw [e7]; exact z7) (show gi b7.2 39 0 (113 * n + 64) = nI 0 by rw [e7]; exact z64)) (fun a r' hh => UR_tr hh hDF3 (FS_tr hFR6 (krr v3 (by decide))))
theorem w01 {p q : Nat} (h0 : q - p = zlen.getD 0 0) : ¬ q - p = zlen.getD 1 0 := fun h1 => by
  rw [h0] at h1
  exact absurd h1 (by decide)
theorem unit2 {d n p q : Nat} {c r : zM} (hB : TB t T) (h : LC t T p q c) (hR : LR t T p r) (hW : DW d n c r) : ok2 (fX4_readUnit c) (fX10_readsUnit r) (UR t T d n c r) := by
  have hK := h.2.1
  have hpq := TOK_le hK
  unfold fX4_readUnit fX10_readsUnit
  refine ok2_r (rNext hB hR hK.1) (fun b hb => ?_)
  obtain ⟨-, y1, y2⟩ := hb
  refine ok2_l (pX4_isWord hB h.1 h.2.2.1 h.2.2.2.1 hK hpq (k := 0) (by omega)) (fun x hx => ?_)
  refine ok2_r (rTakes hB (AR_LR y1 hK.2.2.1) hK (k := 1) (by omega)) (fun b1 hb1 => ?_)
  obtain ⟨v1, v2, v3⟩ := hb1
  rw [y1.2.2]
  by_cases w1 : q - p = zlen.getD 1 0 ∧ Wd T 1 p
  · have w0 : ¬ (q - p = zlen.getD 0 0 ∧ Wd T 0 p) := fun w => w01 w.1 w1.1
    obtain ⟨u1, u2⟩ := v1 w1
    rw [hx.2 w0, if_pos (show (0 : Int32) = 0 from rfl), u1, if_neg n10]
    refine ok2_l (pX4_isWord hB h.1 h.2.2.1 h.2.2.2.1 hK hpq (k := 1) (by omega)) (fun x2 hx2 => ?_)
    rw [hx2.1 w1, if_neg n10]
    exact ok2_mono (unitA (κ := 0) hB h u2 (DW_fs hW (FS_refl c) (FS_tr (lxr y2 (by decide)) (lxr v3 (by decide)))) (by omega)) (fun a r' hh => UR_tr hh (DF_refl c) (FS_tr (krr y2 (by decide)) (krr v3 (by decide))))
  · obtain ⟨u1, u2⟩ := v2 w1
    rw [u1, if_pos (show (0 : Int32) = 0 from rfl)]
    refine ok2_r (rTakes hB (AR_LR u2 hK.2.2.1) hK (k := 0) (by omega)) (fun b2 hb2 => ?_)
    obtain ⟨t1, t2, t3⟩ := hb2
    have g2 : FS [2008, 2009, 2010, 2011] r b2.2 := FS_tr (lxr y2 (by decide)) (FS_tr (lxr v3 (by decide)) (lxr t3 (by decide)))
    by_cases w0 : q - p = zlen.getD 0 0 ∧ Wd T 0 p
    · obtain ⟨u3, u4⟩ := t1 w0
      rw [hx.1 w0, if_neg n10, u3, if_neg n10]
      exact ok2_mono (unitA (κ := 1) hB h u4 (DW_fs hW (FS_refl c) g2) (by omega)) (fun a r' hh => UR_tr hh (DF_refl c) (krr g2 (by decide)))
    · obtain ⟨u3, u4⟩ := t2 w0
      rw [hx.2 w0, if_pos (show (0 : Int32) = 0 from rfl), u3, if_pos (show (0 : Int32) = 0 from rfl), show fX10_fails 1 (nI p) b2.2 = some (wi b2.2 10 0 9 (FL p 1)) from qFail (v := 1) u4.2.1, Option.bind_some]
      have hw : WR t T (FL p 1) (wi b2.2 10 0 9 (FL p 1)) := WR_of hB u4.1 u4.2.2 hK.1 hK.1 (by omega)
      have fW := FS_wf (v := FL p 1) (k := 10) (s := 9) (i := 0) (ks := [2009]) (by decide) (by decide) (FS_refl b2.2)
      rw [w58 hw]
      refine ok2_l (pX4_isWord hB h.1 h.2.2.1 h.2.2.2.1 hK hpq (k := 1) (by omega)) (fun x2 hx2 => ?_)
      rw [hx2.2 w1, if_pos (show (0 : Int32) = 0 from rfl), show fX4_refuse 1 c = some (0, wi c 4 0 5 (FL p 1)) from cRef (v := 1) h, Option.bind_some]
      exact ok2_zl (show zbo 0 = true by decide) (ok2_some ⟨DF_lx fRef.1, FS_tr (krr g2 (by decide)) (krr fW (by decide)), Or.inr (Or.inr ⟨rfl, _, fRef.2, FL_0 hB hK.1 (by omega) (by omega), hw⟩)⟩)
end LX
