/-! leave, turn -/
theorem uC_par {m m' : zM} {N : Nat} (f : FS [5, 30] m m') (h5 : ∀ i, i ≠ 2 * N → gi m' 5 i 1 = gi m 5 i 1) (h30 : ∀ i s, i ≠ 2 * N → gi m' 30 i s = gi m 30 i s) : (∀ q, q ≠ N → uC m' q = uC m q) ∧ ∀ s, s < 3 ∨ 8 ≤ s → uC m' N s = uC m N s := by
  have g : ∀ k i s, zisf k = false → k ∉ [5, 30] → gi m' k i s = gi m k i s := fun k i s hf hk => FSa f i s hf hk
  refine ⟨fun q hq => ?_, fun s hs => ?_⟩
  · exact uC_cg (fun s _ => g 7 _ s (by decide) (by decide)) (h5 _ (by omega)) (fun s _ => h30 _ s (by omega)) (h5 _ (by omega)) (fun s _ => h30 _ s (by omega)) (fun s _ => g 31 _ s (by decide) (by decide)) (fun s _ => g 32 _ s (by decide) (by decide)) (fun s _ => g 33 _ s (by decide) (by decide)) (fun s _ => g 34 _ s (by decide) (by decide))
  · by_cases h : s < 251
    · rw [uC_adr h, uC_adr h]
      rcases u9 s N with a | a | a | a | a | a | a | a | a
      · rw [a.2.1]; exact g 7 _ _ (by decide) (by decide)
      · omega
      · omega
      · rw [a.2.1, a.2.2.1, a.2.2.2]; exact h5 _ (by omega)
      · rw [a.2.2.1, a.2.2.2.1]; exact h30 _ _ (by omega)
      · rw [a.2.2.1]; exact g 31 _ _ (by decide) (by decide)
      · rw [a.2.2.1]; exact g 32 _ _ (by decide) (by decide)
      · rw [a.2.2.1]; exact g 33 _ _ (by decide) (by decide)
      · rw [a.2.1]; exact g 34 _ _ (by decide) (by decide)
    · have e : ∀ (m : zM) (n : Nat), uC m n s = 0 := fun m n => by
        unfold uC
        rw [if_neg (by omega), if_neg (by omega), if_neg (by omega), if_neg (by omega), if_neg (by omega), if_neg (by omega), if_neg (by omega), if_neg (by omega), if_neg h]
      rw [e, e]
/-- an act that changes the parents alone -/
theorem INV_par {t w d n a b h nx x p p' : Nat} {f : Nat → Nat} {c r c1 r1 c2 r2 : zM} (hT : TPI t c r) (hW : WLI w d n c r) (hS : SHI a b c r) (hH : HII w n h nx c r) (hx : x < n) (hC : BC w x n nx h c c1) (hR : BR h r r1)
    (f2 : FS [5, 30] c1 c2) (h5 : ∀ i, i ≠ 2 * (12 * w + x) → gi c2 5 i 1 = gi c1 5 i 1) (h30 : ∀ i s, i ≠ 2 * (12 * w + x) → gi c2 30 i s = gi c1 30 i s) (g2 : FS [38] r1 r2) (gs : ∀ s, s < 113 * x + 2 ∨ 113 * x + 7 ≤ s → gi r2 38 0 s = gi r1 38 0 s)
    (hp : gi r 38 0 (113 * x + 2) = nI p) (p4 : p ≤ 4) (p4' : p' ≤ 4) (hf : ∀ k, k < p' → f k < p) (c5 : gi c2 5 (2 * (12 * w + x)) 1 = nI p') (ck : ∀ k, k < p' → gi c2 30 (2 * (12 * w + x)) k = gi c1 30 (2 * (12 * w + x)) (f k)) (r5 : gi r2 38 0 (113 * x + 2) = nI p') (rk : ∀ k, k < p' → gi r2 38 0 (113 * x + (3 + k)) = gi r1 38 0 (113 * x + (3 + f k))) : INV c2 r2 := by
  have hw := hW.2.2.1
  have h12 := hW.n12
  have hu1 : uC c1 (12 * w + x) = uC c (12 * w + x) := by rw [hC.1.1, if_neg (by omega)]
  have er : rR r1 38 0 x = rR r 38 0 x := rR_cg (fun s _ => FSa hR.2 0 _ (by decide) (by decide))
  obtain ⟨u1, u2⟩ := uC_par f2 h5 h30
  rw [hu1] at u2
  have hRU := hW.ru hx
  have rs : ∀ s, s < 113 → (s < 2 ∨ 7 ≤ s) → rR r2 38 0 x s = rR r 38 0 x s := fun s h1 h2 => by
    rw [← er, rR_0 h1, rR_0 h1]
    exact gs _ (by omega)
  have e2 : rR r 38 0 x 2 = nI p := by rw [rR_0 (by omega)]; exact hp
  have e2' : rR r2 38 0 x 2 = nI p' := by rw [rR_0 (by omega)]; exact r5
  have ek : ∀ k, k < p' → rR r2 38 0 x (3 + k) = rR r 38 0 x (3 + f k) := fun k hk => by
    have := hf k hk
    rw [← er, rR_0 (by omega), rR_0 (by omega)]
    exact rk k hk
  refine INV_act hT hW hS hH hx hC hR u1 (FS_mono (zss (by decide)) f2) (fun u hu hne => ?_) g2 (gs _ (by omega)) ⟨⟨?_, ?_, ?_, ?_⟩, ?_, ?_, ?_⟩ (rs 0 (by omega) (by omega)) (fun k hk => ?_) (fun k hk => ?_)
  · exact rR_cg (fun s hs => by rw [Nat.zero_add]; exact gs _ (by omega))
  · rw [rs 0 (by omega) (by omega)]; exact hRU.1.1
  · rw [rs 0 (by omega) (by omega), u2 0 (by omega)]; exact hRU.1.2.1
  · rw [rs 1 (by omega) (by omega)]; exact hRU.1.2.2.1
  · rw [rs 1 (by omega) (by omega), u2 1 (by omega)]; exact hRU.1.2.2.2
  · refine PS_map hRU.2.1 e2 p4 p4' (by rw [uC_ps]; exact c5) e2' hf (fun k hk => ?_) ek
    have := hf k hk
    rw [uC_pi (by omega), ck k hk, ← uC_pi (by omega), hu1]
  · exact US_cg hRU.2.2.1 (fun s h1 h2 => rs s (by omega) (by omega)) (fun s h1 h2 => u2 s (by omega)) (fun s h1 h2 => u2 s (by omega))
  · exact OS_cg hRU.2.2.2 (fun s h1 h2 => rs s (by omega) (by omega)) (u2 2 (by omega)) (fun s h1 h2 => u2 s (by omega))
  · rw [e2', zn_n (by omega)] at hk
    rw [ek k hk]
    exact (hW.2.2.2.2.2.2.2.2 x hx).2.1 (f k) (by show f k < zn (rR r 38 0 x 2); rw [e2, zn_n (by omega)]; exact hf k hk)
  · rw [rs 7 (by omega) (by omega)] at hk
    have hk4 := hRU.2.2.1.lt hk
    rw [rs _ (by omega) (by omega)]
    exact (hW.2.2.2.2.2.2.2.2 x hx).2.2 k hk
theorem pX5_removeAt {v0 p k : Nat} {mm : zM} (hn : gi mm 5 v0 1 = nI p) (p4 : p ≤ 4) (hk : k < p) : ok (fX5_removeAt v0 (nI k) mm) (fun m' => (gi m' 5 v0 1 = nI (p - 1) ∧ (∀ i, i ≠ v0 → gi m' 5 i 1 = gi mm 5 i 1) ∧ ∀ i s, gi m' 30 i s = if i = v0 ∧ k ≤ s ∧ s + 1 < p then gi mm 30 v0 (s + 1) else gi mm 30 i s) ∧ FS [5, 30] mm m') := by
  refine ok_fr ?_ (frX5_removeAt (ks := [5, 30]) (fun k h => h) (FS_refl mm))
  unfold fX5_removeAt
  refine ok_f (nI_pos (by omega)) ?_
  rw [hn]
  refine ok_t ((nIlt (by omega) (by omega)).mpr hk) ?_
  refine ok_bind (P := fun o => ∃ m', o = Sum.inl m' ∧ (∀ i, gi m' 5 i 1 = gi mm 5 i 1) ∧ ∀ i s, gi m' 30 i s = if i = v0 ∧ k ≤ s ∧ s + 1 < p then gi mm 30 v0 (s + 1) else gi mm 30 i s) ?_ (fun o ho => ?_)
  · rw [nI_1]
    refine ok_for (fun i s => s.1 = nI i ∧ (∀ i, gi s.2 5 i 1 = gi mm 5 i 1) ∧ ∀ j s', gi s.2 30 j s' = if j = v0 ∧ k ≤ s' ∧ s' + 1 < i then gi mm 30 v0 (s' + 1) else gi mm 30 j s') (a := k + 1) (b := p) (by omega) (by unfold zF; omega) ⟨rfl, fun i => rfl, fun j s => ?_⟩ (fun i s hi1 hi hI => ?_) (fun s hI => ?_)
    · rw [if_neg (by omega)]
    · obtain ⟨s1, m⟩ := s
      obtain ⟨h1, h2, h3⟩ := hI
      dsimp only at h1 h2 h3
      subst h1
      unfold fX5_removeAt_L17
      dsimp only
      rw [h2, hn]
      refine ok_f (fun q => by have := (nIle (by omega) (by omega)).mp q; omega) ?_
      rw [l1, pk_sub (by omega)]
      refine ok_zob (zin_n (by omega) (by omega)) (ok_zob (zin_n (by omega) (by omega)) ?_)
      rw [zn_n (by omega), zn_n (by omega)]
      refine ok_some (Or.inl ⟨_, rfl, by rw [nI_add], fun j => ?_, fun j s' => ?_⟩)
      · dsimp only
        rw [gi_wi, if_neg (by omega)]; exact h2 j
      · dsimp only
        rw [gi_wi]
        by_cases e : 30 = 30 ∧ j = v0 ∧ s' = i - 1
        · rw [if_pos e, if_pos ⟨e.2.1, by omega, by omega⟩, h3, if_neg (by omega), show s' + 1 = i by omega]
        · rw [if_neg e, h3]
          by_cases e2 : j = v0 ∧ k ≤ s' ∧ s' + 1 < i
          · rw [if_pos e2, if_pos ⟨e2.1, e2.2.1, by omega⟩]
          · rw [if_neg e2, if_neg (fun q => e ⟨rfl, q.1, by omega⟩)]
    · obtain ⟨s1, m⟩ := s
      obtain ⟨h1, h2, h3⟩ := hI
      dsimp only at h1 h2 h3
      subst h1
      unfold fX5_removeAt_L17
      dsimp only
      rw [h2, hn]
      exact ok_t (Int32.le_refl _) (ok_some ⟨_, rfl, m, rfl, h2, h3⟩)
  · obtain ⟨m', rfl, h2, h3⟩ := ho
    refine ok_some ⟨?_, fun i hi => ?_, fun i s => ?_⟩
    · rw [gi_wi, if_pos ⟨rfl, rfl, rfl⟩, h2, hn, l1, pk_sub (by omega)]
    · rw [gi_wi, if_neg (by omega)]; exact h2 i
    · rw [gi_wi, if_neg (by omega)]; exact h3 i s
theorem call_leave (v1 v2 : Int32) : CALL (fX9_leave v1 v2) (fX10_leave v1 v2) := fun c r hI => by
  obtain ⟨t, w, d, n, a, b, h, nx, hT, hW, hS, hH, hF⟩ := id hI
  have h12 := hW.n12
  unfold fX9_leave fX10_leave
  simp only [hW.1, hW.cTy, hW.rTy, Option.bind_some]
  by_cases t1 : zin v1 n = true ∧ gi r 38 0 (113 * zn v1) = 0
  rotate_left
  · rw [if_neg t1]; exact ok2_some ⟨rfl, hI⟩
  rw [if_pos t1, if_neg n10, if_neg n10]
  obtain ⟨x, hx, rfl, hx3⟩ := zin_e t1.1
  refine ok2_zl (zin_n (by omega) (by omega)) ?_
  rw [zn_n hx3]
  obtain ⟨p, p4, pc, pr, pk⟩ := hW.par hx
  rw [pX5_placeOf pc p4, Option.bind_some, qPlaceOf (by omega) pr p4, Option.bind_some, zfd_cg (g := fun k => gi r 38 0 (113 * x + (3 + k))) (fun k hk => (pk k hk).1)]
  cases hz : zfd (fun k => gi r 38 0 (113 * x + (3 + k))) v2 p with
  | none =>
    rw [if_pos (show zfx none = -1 from rfl), if_pos (show zfx none = -1 from rfl)]
    exact ok2_some ⟨rfl, hI⟩
  | some k =>
    have hk := (zfd_some hz).1
    rw [if_neg (zfx_some (by omega)), if_neg (zfx_some (by omega))]
    refine ok2_l (pX9_beginAct (t := t) hW hH hx) (fun c1 hC => ?_)
    refine ok2_r (qKeepsPast hH.2.2.2.1 hH.1) (fun r1 hR => ?_)
    have hu1 : uC c1 (12 * w + x) = uC c (12 * w + x) := by rw [hC.1.1, if_neg (by have := hW.2.2.1; omega)]
    have pc1 : gi c1 5 (2 * (12 * w + x)) 1 = nI p := by rw [← uC_ps, hu1, uC_ps]; exact pc
    have er : ∀ s, gi r1 38 0 s = gi r 38 0 s := fun s => FSa hR.2 0 _ (by decide) (by decide)
    have pr1 : gi r1 38 0 (113 * x + 2) = nI p := by rw [er]; exact pr
    have hz1 : zfd (fun k => gi r1 38 0 (113 * x + (3 + k))) v2 p = some k := by rw [← hz]; exact zfd_cg (fun k _ => er _)
    rw [show zfx (some k) = nI k from rfl, qPlaceOf (by omega) pr1 p4, Option.bind_some, hz1, show zfx (some k) = nI k from rfl]
    refine ok2_l (pX5_removeAt pc1 p4 hk) (fun c2 hc2 => ?_)
    refine ok2_r (P := fun o => ∃ m', o = Sum.inl m' ∧ (∀ s, gi m' 38 0 s = if 113 * x + 3 + k ≤ s ∧ s + 1 < 113 * x + 3 + p then gi r1 38 0 (s + 1) else gi r1 38 0 s) ∧ FS [38] r1 m') ?_ (fun o ho => ?_)
    · refine ok_mono (ok_for (Q := fun o => ∃ m', o = Sum.inl m' ∧ (∀ s, gi m' 38 0 s = if 113 * x + 3 + k ≤ s ∧ s + 1 < 113 * x + 3 + p then gi r1 38 0 (s + 1) else gi r1 38 0 s) ∧ FS [38] r1 m') (fun i s => s.1 = nI i ∧ (∀ s', gi s.2 38 0 s' = if 113 * x + 3 + k ≤ s' ∧ s' < 113 * x + 3 + i then gi r1 38 0 (s' + 1) else gi r1 38 0 s') ∧ FS [38] r1 s.2) (a := k) (b := p - 1) (by omega) (by unfold zF; omega) ⟨rfl, fun s => ?_, FS_refl r1⟩ (fun i s hi1 hi hI2 => ?_) (fun s hI2 => ?_)) (fun o h => h)
      · rw [if_neg (by omega)]
      · obtain ⟨s1, m⟩ := s
        obtain ⟨h1, h2, h3⟩ := hI2
        dsimp only at h1 h2 h3
        subst h1
        unfold fX10_leave_L31
        dsimp only
        have e2 : gi m 38 0 (113 * x + 2) = nI p := by rw [h2, if_neg (by omega)]; exact pr1
        rw [qParents (by omega), Option.bind_some, e2, l1, pk_sub (by omega)]
        refine ok_f (fun q => by have := (nIle (by omega) (by omega)).mp q; omega) ?_
        rw [nI_add, qParentOf (by omega) (by omega), Option.bind_some, l113, pk_mul, l2, nI_add, nI_add, nI_add]
        refine ok_zob (zin_n (by omega) (by omega)) ?_
        rw [zn_n (by omega)]
        refine ok_some (Or.inl ⟨_, rfl, rfl, fun s' => ?_, FS_wa (by decide) (by decide) h3⟩)
        dsimp only
        rw [gi_wi]
        by_cases e : 38 = 38 ∧ 0 = 0 ∧ s' = 113 * x + 2 + 1 + i
        · rw [if_pos e, if_pos (by omega), h2, if_neg (by omega), show 113 * x + (3 + (i + 1)) = s' + 1 by omega]
        · rw [if_neg e, h2]
          by_cases e2 : 113 * x + 3 + k ≤ s' ∧ s' < 113 * x + 3 + i
          · rw [if_pos e2, if_pos (by omega)]
          · rw [if_neg e2, if_neg (by omega)]
      · obtain ⟨s1, m⟩ := s
        obtain ⟨h1, h2, h3⟩ := hI2
        dsimp only at h1 h2 h3
        subst h1
        unfold fX10_leave_L31
        dsimp only
        have e2 : gi m 38 0 (113 * x + 2) = nI p := by rw [h2, if_neg (by omega)]; exact pr1
        rw [qParents (by omega), Option.bind_some, e2, l1, pk_sub (by omega)]
        refine ok_t (Int32.le_refl _) (ok_some ⟨_, rfl, m, rfl, fun s => ?_, h3⟩)
        rw [h2]
        by_cases e : 113 * x + 3 + k ≤ s ∧ s < 113 * x + 3 + (p - 1)
        · rw [if_pos e, if_pos (by omega)]
        · rw [if_neg e, if_neg (by omega)]
    · obtain ⟨y, rfl, hy, fy⟩ := ho
      have ey : gi y 38 0 (113 * x + 2) = nI p := by rw [hy, if_neg (by omega)]; exact pr1
      show ok2 _ (zob (zin (113 * nI x + 2) 1357) (zob (zin (113 * nI x + 2) 1357) ((fX10_parents (nI x) (wi y 38 0 (zn (113 * nI x + 2)) (gi y 38 0 (zn (113 * nI x + 2)) - 1))).bind (fun x9 => some (x9, wi y 38 0 (zn (113 * nI x + 2)) (gi y 38 0 (zn (113 * nI x + 2)) - 1)))))) _
      rw [l113, pk_mul, l2, nI_add, zn_n (by omega), ey, l1, pk_sub (by omega), qParents (by omega), Option.bind_some]
      refine ok2_zr (zin_n (by omega) (by omega)) (ok2_zr (zin_n (by omega) (by omega)) (ok2_some ⟨?_, ?_⟩))
      · show gi c2 5 (2 * (12 * w + x)) 1 = gi (wi y 38 0 (113 * x + 2) (nI (p - 1))) 38 0 (113 * x + 2)
        rw [hc2.1.1, gi_wi, if_pos ⟨rfl, rfl, rfl⟩]
      · refine INV_par (p := p) (p' := p - 1) (f := fun j => if j < k then j else j + 1) hT hW hS hH hx hC hR hc2.2 hc2.1.2.1 (fun i s hi => ?_) (FS_wa (by decide) (by decide) fy) (fun s hs => ?_) pr p4 (by omega) (fun j hj => ?_) hc2.1.1 (fun j hj => ?_) ?_ (fun j hj => ?_)
        · rw [hc2.1.2.2, if_neg (fun q => hi q.1)]
        · rw [gi_wi, if_neg (by omega), hy, if_neg (by omega)]
        · show (if j < k then j else j + 1) < p
          split <;> omega
        · show _ = gi c1 30 (2 * (12 * w + x)) (if j < k then j else j + 1)
          rw [hc2.1.2.2]
          by_cases e : j < k
          · rw [if_neg (by omega), if_pos e]
          · rw [if_pos ⟨rfl, by omega, by omega⟩, if_neg e]
        · rw [gi_wi, if_pos ⟨rfl, rfl, rfl⟩]
        · show _ = gi r1 38 0 (113 * x + (3 + (if j < k then j else j + 1)))
          rw [gi_wi, if_neg (by omega), hy]
          by_cases e : j < k
          · rw [if_neg (by omega), if_pos e]
          · rw [if_pos (by omega), if_neg e]
            rfl
