/-! take -/
theorem call_take (v1 v2 : Int32) : CALL (fX9_take v1 v2) (fX10_take v1 v2) := fun c r hI => by
  obtain ⟨t, w, d, n, a, b, h, nx, hT, hW, hS, hH, hF⟩ := id hI
  have h12 := hW.n12
  have hw := hW.2.2.1
  unfold fX9_take fX10_take
  simp only [hW.1, hW.cUn, hW.rUn, Option.bind_some, pX9_isLetter]
  by_cases t1 : zin v1 n = true
  rotate_left
  · rw [if_neg t1]; exact ok2_some ⟨rfl, hI⟩
  rw [if_pos t1, if_neg n10, if_neg n10]
  obtain ⟨x, hx, rfl, hx3⟩ := zin_e t1
  obtain ⟨o, o8, oc, or', om, ol⟩ := hW.own hx
  rw [qOwnOf (by omega) or' o8, Option.bind_some]
  by_cases t2 : zin v2 26 = true
  rotate_left
  · have hz : zfd (fun k => gi r 38 0 (113 * x + (65 + 6 * k))) v2 o = none := zfd_no (fun k hk e => t2 (by rw [← e]; exact ol k hk))
    rw [if_neg t2, if_pos rfl, hz, if_pos (show zfx none = -1 from rfl)]
    exact ok2_some ⟨rfl, hI⟩
  rw [if_pos t2, if_neg n10]
  obtain ⟨m, hm, rfl, hm3⟩ := zin_e t2
  refine ok2_zl (zin_n (by omega) (by omega)) ?_
  rw [zn_n hx3, pX7_tells hm, Option.bind_some]
  cases hz : zfd (fun k => gi r 38 0 (113 * x + (65 + 6 * k))) (nI m) o with
  | none =>
    rw [(om m hm).1 hz, if_pos rfl, if_pos rfl, if_pos (show zfx none = -1 from rfl)]
    exact ok2_some ⟨rfl, hI⟩
  | some k =>
    obtain ⟨cn, cn4, e32, e66, -⟩ := (om m hm).2 k hz
    have hk := (zfd_some hz).1
    have ne1 : ¬ gi c 32 (12 * w + x) m = -1 := by rw [e32]; exact nIm1 (by omega)
    rw [if_neg ne1, if_neg n10, if_neg (zfx_some (by omega))]
    refine ok2_l (pX9_beginAct (t := t) hW hH hx) (fun c1 hC => ?_)
    refine ok2_r (qKeepsPast hH.2.2.2.1 hH.1) (fun r1 hR => ?_)
    have hu1 : uC c1 (12 * w + x) = uC c (12 * w + x) := by rw [hC.1.1, if_neg (by omega)]
    have oc1 := hW.own1 hx hC oc
    have e321 : ¬ gi c1 32 (12 * w + x) m = -1 := by rw [← uC_tc hm, hu1, uC_tc hm]; exact ne1
    have er : ∀ s, gi r1 38 0 s = gi r 38 0 s := fun s => FSa hR.2 0 _ (by decide) (by decide)
    have or1 : gi r1 38 0 (113 * x + 64) = nI o := by rw [er]; exact or'
    have hz1 : zfd (fun k => gi r1 38 0 (113 * x + (65 + 6 * k))) (nI m) o = some k := by rw [← hz]; exact zfd_cg (fun k _ => er _)
    have g1 : gr c1 9 2 = some w := (FSr hC.2 2 (by decide)).trans hW.1
    rw [g1, Option.bind_some, zob_t _ (zin_n (by omega) (by omega)), pX7_forget hm, Option.bind_some, if_neg e321]
    rw [show gr (wi (wi c1 7 (12 * w + x) 2 (gi c1 7 (12 * w + x) 2 - 1)) 32 (12 * w + x) m (-1)) 9 2 = some w from g1, Option.bind_some, zob_t _ (zin_n (by omega) (by omega)), oc1, l1, pk_sub (by omega)]
    rw [qOwnOf (by omega) or1 o8, Option.bind_some, hz1, show zfx (some k) = nI k from rfl, qOwnAt, Option.bind_some]
    refine ok2_r (P := fun o' => ∃ m', o' = Sum.inl m' ∧ (∀ s, gi m' 38 0 s = if 113 * x + (65 + 6 * k) ≤ s ∧ s < 113 * x + (65 + 6 * (o - 1)) then gi r1 38 0 (s + 6) else gi r1 38 0 s) ∧ FS [38] r1 m') ?_ (fun o' ho' => ?_)
    · refine ok_for (fun i s => s.1 = nI i ∧ (∀ s', gi s.2 38 0 s' = if 113 * x + (65 + 6 * k) ≤ s' ∧ s' < i then gi r1 38 0 (s' + 6) else gi r1 38 0 s') ∧ FS [38] r1 s.2) (a := 113 * x + (65 + 6 * k)) (b := 113 * x + (65 + 6 * (o - 1))) (by omega) (by unfold zF; omega) ⟨rfl, fun s => ?_, FS_refl r1⟩ (fun i s hi1 hi hI2 => ?_) (fun s hI2 => ?_)
      · rw [if_neg (by omega)]
      · obtain ⟨s1, m'⟩ := s
        obtain ⟨h1, h2, h3⟩ := hI2
        dsimp only at h1 h2 h3
        subst h1
        unfold fX10_take_L35
        dsimp only
        have e2 : gi m' 38 0 (113 * x + 64) = nI o := by rw [h2, if_neg (by omega)]; exact or1
        rw [qOwns (by omega), Option.bind_some, e2, l1, pk_sub (by omega), qOwnAt, Option.bind_some]
        refine ok_f (fun q => by have := (nIle (by omega) (by omega)).mp q; omega) ?_
        rw [l6, nI_add, nI_add]
        refine ok_zob (zin_n (by omega) (by omega)) (ok_zob (zin_n (by omega) (by omega)) ?_)
        rw [zn_n (by omega), zn_n (by omega)]
        refine ok_some (Or.inl ⟨_, rfl, rfl, fun s' => ?_, FS_wa (by decide) (by decide) h3⟩)
        dsimp only
        rw [gi_wi]
        by_cases e : 38 = 38 ∧ 0 = 0 ∧ s' = i
        · rw [if_pos e, if_pos (by omega), h2, if_neg (by omega), e.2.2]
        · rw [if_neg e, h2]
          by_cases e2 : 113 * x + (65 + 6 * k) ≤ s' ∧ s' < i
          · rw [if_pos e2, if_pos (by omega)]
          · rw [if_neg e2, if_neg (by omega)]
      · obtain ⟨s1, m'⟩ := s
        obtain ⟨h1, h2, h3⟩ := hI2
        dsimp only at h1 h2 h3
        subst h1
        unfold fX10_take_L35
        dsimp only
        have e2 : gi m' 38 0 (113 * x + 64) = nI o := by rw [h2, if_neg (by omega)]; exact or1
        rw [qOwns (by omega), Option.bind_some, e2, l1, pk_sub (by omega), qOwnAt, Option.bind_some]
        exact ok_t (Int32.le_refl _) (ok_some ⟨_, rfl, m', rfl, h2, h3⟩)
    · obtain ⟨y, rfl, hy, fy⟩ := ho'
      have ey : gi y 38 0 (113 * x + 64) = nI o := by rw [hy, if_neg (by omega)]; exact or1
      show ok2 _ (zob (zin (113 * nI x + 64) 1357) (zob (zin (113 * nI x + 64) 1357) ((fX10_owns (nI x) (wi y 38 0 (zn (113 * nI x + 64)) (gi y 38 0 (zn (113 * nI x + 64)) - nI 1))).bind (fun x9 => some (x9, wi y 38 0 (zn (113 * nI x + 64)) (gi y 38 0 (zn (113 * nI x + 64)) - nI 1)))))) _
      rw [l113, pk_mul, l64, nI_add, zn_n (by omega), ey, pk_sub (by omega), qOwns (by omega), Option.bind_some]
      refine ok2_zr (zin_n (by omega) (by omega)) (ok2_zr (zin_n (by omega) (by omega)) (ok2_some ⟨?_, ?_⟩))
      · show gi (wi (wi c1 7 (12 * w + x) 2 (nI (o - 1))) 32 (12 * w + x) m (-1)) 7 (12 * w + x) 2 = gi (wi y 38 0 (113 * x + 64) (nI (o - 1))) 38 0 (113 * x + 64)
        rw [gi_wi, if_neg (by omega), gi_wi, if_pos ⟨rfl, rfl, rfl⟩, gi_wi, if_pos ⟨rfl, rfl, rfl⟩]
      · show INV (wi (wi c1 7 (12 * w + x) 2 (nI (o - 1))) 32 (12 * w + x) m (-1)) (wi y 38 0 (113 * x + 64) (nI (o - 1)))
        refine INV_own hT hW hS hH hx hC hR (FS_wa (by decide) (by decide) (FS_wa (by decide) (by decide) (FS_refl c1))) (fun i s hi => ?_) (fun i s hi => ?_) (fun i s hi => ?_) (FS_wa (by decide) (by decide) fy) (fun s hs => ?_) ?_
        · rw [gi_wi, if_neg (by omega), gi_wi, if_neg (by omega)]
        · rw [gi_wi, if_neg (by omega), gi_wi, if_neg (by omega)]
        · rw [gi_wi, if_neg (by omega), gi_wi, if_neg (by omega)]
        · rw [gi_wi, if_neg (by omega), hy, if_neg (by omega)]
        · have e64 : rR r 38 0 x 64 = nI o := by rw [rR_0 (by omega)]; exact or'
          refine OS_del (k0 := k) (hW.OS hx) e64 o8 ?_ hm ?_ (fun k' j hk' hj => ?_) ?_ ?_ (fun m' hm' hne => ⟨?_, fun i hi => ?_⟩)
          · rw [← hz]
            exact zfd_cg (fun k hk => rR_0 (by omega))
          · rw [rR_0 (by omega), gi_wi, if_pos ⟨rfl, rfl, rfl⟩]
          · have hb : (if k' < k then k' else k' + 1) < o := by split <;> omega
            rw [rR_0 (by omega), gi_wi, if_neg (by omega), hy, rR_0 (by omega), er, er]
            by_cases q : k' < k
            · rw [if_neg (by omega), if_pos q]
            · rw [if_pos (by omega), if_neg q, show 113 * x + (65 + 6 * k' + j) + 6 = 113 * x + (65 + 6 * (k' + 1) + j) by omega]
          · rw [uC_7 (by omega), gi_wi, if_neg (by omega), gi_wi, if_pos ⟨rfl, rfl, rfl⟩]
          · rw [uC_tc hm, gi_wi, if_pos ⟨rfl, rfl, rfl⟩]
          · rw [uC_tc hm', gi_wi, if_neg (by omega), gi_wi, if_neg (by omega), ← uC_tc hm', hu1]
          · rw [uC_tm (by omega), gi_wi, if_neg (by omega), gi_wi, if_neg (by omega), ← uC_tm (by omega), hu1]
