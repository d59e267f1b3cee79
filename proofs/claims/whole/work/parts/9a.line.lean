/-! one unit's line, and what stands over it, on both sides -/
theorem Rch_up {n x : Nat} {rw : Nat → Nat → Int32} (hp : ∀ v, v < n → ∀ k, k < zn (rw v 2) → zn (rw v (3 + k)) < v) : ∀ f v, v < n → v ≤ f → (Rch rw f v x ↔ Rch rw (f + 1) v x)
  | 0, v, hv, h => by
    have e : v = 0 := by omega
    subst e
    constructor
    · intro q
      exact Or.inl q
    · rintro (q | ⟨k, hk, -⟩)
      · exact q
      · have := hp 0 hv k hk
        omega
  | f + 1, v, hv, h => by
    constructor
    · rintro (q | ⟨k, hk, q⟩)
      · exact Or.inl q
      · have := hp v hv k hk
        exact Or.inr ⟨k, hk, (Rch_up hp f _ (by omega) (by omega)).mp q⟩
    · rintro (q | ⟨k, hk, q⟩)
      · exact Or.inl q
      · have := hp v hv k hk
        exact Or.inr ⟨k, hk, (Rch_up hp f _ (by omega) (by omega)).mpr q⟩
theorem Rch_12 {n x u : Nat} {rw : Nat → Nat → Int32} (hp : ∀ v, v < n → ∀ k, k < zn (rw v 2) → zn (rw v (3 + k)) < v) (n12 : n ≤ 12) (hu : u < n) : Rch rw 12 u x ↔ x = u ∨ ∃ k, k < zn (rw u 2) ∧ Rch rw 12 (zn (rw u (3 + k))) x := by
  constructor
  · rintro (q | ⟨k, hk, q⟩)
    · exact Or.inl q
    · have := hp u hu k hk
      exact Or.inr ⟨k, hk, (Rch_up hp 11 _ (by omega) (by omega)).mp q⟩
  · rintro (q | ⟨k, hk, q⟩)
    · exact Or.inl q
    · have := hp u hu k hk
      exact Or.inr ⟨k, hk, (Rch_up hp 11 _ (by omega) (by omega)).mpr q⟩
theorem Rch_le {n x : Nat} {rw : Nat → Nat → Int32} (hp : ∀ v, v < n → ∀ k, k < zn (rw v 2) → zn (rw v (3 + k)) < v) : ∀ f v, v < n → Rch rw f v x → x ≤ v
  | 0, v, hv, h => by
    have : x = v := h
    omega
  | f + 1, v, hv, h => by
    rcases h with q | ⟨k, hk, q⟩
    · omega
    · have h1 := hp v hv k hk
      have := Rch_le hp f _ (by omega) q
      omega
theorem WLI.pl {w d n : Nat} {c r : zM} (h : WLI w d n c r) : ∀ v, v < n → ∀ k, k < zn (rR r 38 0 v 2) → zn (rR r 38 0 v (3 + k)) < v := fun v hv k hk => (zin_z ((h.ru hv).2.1.2.2 k hk).1).2.1
def OVv (c : zM) (rw : Nat → Nat → Int32) (v : Nat) : Prop := rw v 0 = 0 → ∃ b, b < 4096 ∧ gi c 22 0 v = nI b ∧ ∀ x, b.testBit x = true ↔ Rch rw 12 v x
theorem pX2_gatherOver {w d n u : Nat} {c r : zM} (hW : WLI w d n c r) (hu : u < n) (hO : ∀ v, v < u → OVv c (fun u => rR r 38 0 u) v) : ok (fX2_gatherOver (nI u) (2 * (12 * w + u)) c) (fun c' => ∃ b, c' = wi c 22 0 u (nI b) ∧ b < 4096 ∧ ∀ x, b.testBit x = true ↔ Rch (fun u => rR r 38 0 u) 12 u x) := by
  have h12 := hW.n12
  obtain ⟨p, p4, pc, pr, pk⟩ := hW.par hu
  have e2 : rR r 38 0 u 2 = nI p := by rw [rR_0 (by omega)]; exact pr
  unfold fX2_gatherOver
  rw [sh1 (by omega)]
  have main : ok (zloop (fX2_gatherOver_L7 (nI u) (2 * (12 * w + u)) c) zF (nI (2 ^ u), 0)) (fun o => ∃ b, o = Sum.inl (nI b) ∧ b < 4096 ∧ ∀ x, b.testBit x = true ↔ Rch (fun u => rR r 38 0 u) 12 u x) := by
    refine ok_for (fun i s => s.2 = nI i ∧ ∃ b, s.1 = nI b ∧ b < 4096 ∧ ∀ x, b.testBit x = true ↔ (x = u ∨ ∃ k, k < i ∧ Rch (fun u => rR r 38 0 u) 12 (zn (rR r 38 0 u (3 + k))) x)) (a := 0) (b := p) (by omega) (by unfold zF; omega) ⟨rfl, 2 ^ u, rfl, p12 (by omega), fun x => ?_⟩ (fun i s _ hi hI => ?_) (fun s hI => ?_)
    · rw [Nat.testBit_two_pow, decide_eq_true_iff]
      constructor
      · intro q; exact Or.inl q.symm
      · rintro (q | ⟨k, hk, -⟩)
        · exact q.symm
        · omega
    · obtain ⟨s1, s2⟩ := s
      obtain ⟨h1, b, h2, h3, h4⟩ := hI
      dsimp only at h1 h2
      subst h1; subst h2
      obtain ⟨k1, q, q1, q2, q3⟩ := pk i hi
      have e3 : rR r 38 0 u (3 + i) = nI q := by rw [rR_0 (by omega)]; exact q2
      obtain ⟨b', b1, b2, b3⟩ := hO q q1 (by show rR r 38 0 q 0 = 0; rw [rR_u0]; exact q3)
      unfold fX2_gatherOver_L7
      dsimp only
      rw [pc, zo _ (by omega) (by omega), zn_n (by omega), k1, q2, zo _ (by omega) (by omega), zn_n (by omega), b2, fa_or, nI_1]
      refine ok_f (fun z => by have := (nIle (by omega) (by omega)).mp z; omega) (ok_some (Or.inl ⟨_, rfl, rfl, b ||| b', rfl, or_lt (k := 12) h3 b1, fun x => ?_⟩))
      rw [Nat.testBit_or, Bool.or_eq_true, h4, b3]
      constructor
      · rintro ((z | ⟨k, hk, z⟩) | z)
        · exact Or.inl z
        · exact Or.inr ⟨k, by omega, z⟩
        · exact Or.inr ⟨i, by omega, by rw [e3, zn_n (by omega)]; exact z⟩
      · rintro (z | ⟨k, hk, z⟩)
        · exact Or.inl (Or.inl z)
        · by_cases y : k = i
          · subst y
            rw [e3, zn_n (by omega)] at z
            exact Or.inr z
          · exact Or.inl (Or.inr ⟨k, by omega, z⟩)
    · obtain ⟨s1, s2⟩ := s
      obtain ⟨h1, b, h2, h3, h4⟩ := hI
      dsimp only at h1 h2
      subst h1; subst h2
      unfold fX2_gatherOver_L7
      dsimp only
      rw [pc]
      refine ok_t (Int32.le_refl _) (ok_some ⟨_, rfl, b, rfl, h3, fun x => ?_⟩)
      rw [h4, Rch_12 hW.pl h12 hu]
      show _ ↔ (x = u ∨ ∃ k, k < zn (rR r 38 0 u 2) ∧ Rch (fun u => rR r 38 0 u) 12 (zn (rR r 38 0 u (3 + k))) x)
      rw [e2, zn_n (by omega)]
  obtain ⟨o, e, b, rfl, h1, h2⟩ := main
  rw [e]
  show ok (zob (zin (nI u) 12) (some (wi c 22 0 (zn (nI u)) (nI b)))) _
  rw [zo _ (by omega) (by omega), zn_n (by omega)]
  exact ok_some ⟨b, rfl, h1, h2⟩
theorem qLaysLine_p {u p : Nat} {r : zM} (hu : u < 12) (hp : gi r 38 0 (113 * u + 2) = nI p) (p4 : p ≤ 4) : fX10_laysLine (nI u) r = (zloop (fX10_laysLine_L22 (nI u) (nI p)) zF (0, wi (wi r 46 0 u 0) 48 0 u 0)).bind (fun o19 => zcase o19 (fun y6 => (zloop (fX10_laysLine_L157 (nI u) (nI p)) zF (1, wi (wi (wi y6 50 0 p (nI p)) 51 0 p 0) 45 0 (12 * u) (nI u))).bind (fun o18 => zcase o18 (fun y16 => zob (zin (nI u) 12) (some (wi y16.2 46 0 (zn (nI u)) y16.1))) (fun r17 => some r17))) (fun r7 => some r7)) := by
  unfold fX10_laysLine
  have e : gi (wi (wi r 46 0 u 0) 48 0 u 0) 38 0 (113 * u + 2) = nI p := by rw [gi_wi, if_neg (by omega), gi_wi, if_neg (by omega)]; exact hp
  rw [zo _ (by omega) (by omega), zo _ (by omega) (by omega), zn_n (by omega), qParents hu, Option.bind_some, e]
  simp (disch := omega) only [zo, zn_n, l12, pk_mul]
theorem line_unit {w d n u : Nat} {c r : zM} {rw : Nat → Nat → Int32} (hW : WLI w d n c r) (hu : u < n) (hrw : (fun u => rR r 38 0 u) = rw) (hL : ∀ v, v < u → RLj c r v) (hO : ∀ v, v < u → OVv c rw v) : ok2 (fX2_mergeAll_L2 w (nI u, c)) ((fX10_isTrait (nI u) r).bind (fun x2 => if x2 = 0 then ((fX10_laysLine (nI u) r).bind (fun x3 => some (Sum.inl (nI u + 1, x3) : (Int32 × zM) ⊕ (zM ⊕ Empty)))) else (zob (zin (nI u) 12) (zob (zin (nI u) 12) (some (Sum.inl (nI u + 1, wi (wi r 46 0 (zn (nI u)) 0) 48 0 (zn (nI u)) 0))))))) (fun o o' => ∃ c' r', o = Sum.inl (nI (u + 1), c') ∧ o' = Sum.inl (nI (u + 1), r') ∧ (∀ v, v < u + 1 → RLj c' r' v) ∧ (∀ v, v < u + 1 → OVv c' rw v) ∧ FS [17, 18, 20, 21, 22, 24, 25, 26, 27, 1209] c c' ∧ FS [45, 46, 47, 48, 49, 50, 51] r r') := by
  have h12 := hW.n12
  subst hrw
  unfold fX2_mergeAll_L2
  dsimp only
  rw [hW.2.2.2.2.2.1, zo _ (by omega) (by omega), zo _ (by omega) (by omega), zo _ (by omega) (by omega), zo _ (by omega) (by omega), zo _ (by omega) (by omega), zo _ (by omega) (by omega), zn_n (by omega), nI_1]
  refine ok2_fl (fun q => by have := (nIle (by omega) (by omega)).mp q; omega) ?_
  generalize hc0 : wi (wi (wi c 18 0 u 0) 21 0 u 0) 22 0 u 0 = c0
  have cf0 : FS [17, 18, 20, 21, 22, 24, 25, 26, 27, 1209] c c0 := by
    rw [← hc0]
    exact FS_wa (by decide) (by decide) (FS_wa (by decide) (by decide) (FS_wa (by decide) (by decide) (FS_refl c)))
  have hW0 : WLI w d n c0 r := WLI_fs hW cf0 (by decide) (FS_refl (ks := []) r) (by decide)
  have a18 : ∀ v, gi c0 18 0 v = if v = u then 0 else gi c 18 0 v := fun v => by
    rw [← hc0, gi_wi, if_neg (by omega), gi_wi, if_neg (by omega), gi_wi]
    simp
  have a21 : ∀ v, gi c0 21 0 v = if v = u then 0 else gi c 21 0 v := fun v => by
    rw [← hc0, gi_wi, if_neg (by omega), gi_wi, gi_wi, if_neg (show ¬ (21 = 18 ∧ 0 = 0 ∧ v = u) by omega)]
    simp
  have a22 : ∀ v, v ≠ u → gi c0 22 0 v = gi c 22 0 v := fun v hv => by
    rw [← hc0, gi_wi, if_neg (by omega), gi_wi, if_neg (by omega), gi_wi, if_neg (by omega)]
  have a17 : ∀ v s, gi c0 17 v s = gi c 17 v s := fun v s => by
    rw [← hc0, gi_wi, if_neg (by omega), gi_wi, if_neg (by omega), gi_wi, if_neg (by omega)]
  have a20 : ∀ v s, gi c0 20 v s = gi c 20 v s := fun v s => by
    rw [← hc0, gi_wi, if_neg (by omega), gi_wi, if_neg (by omega), gi_wi, if_neg (by omega)]
  have hO0 : ∀ v, v < u → OVv c0 (fun u => rR r 38 0 u) v := fun v hv q => by
    obtain ⟨b, b1, b2, b3⟩ := hO v hv q
    exact ⟨b, b1, by rw [a22 v (by omega)]; exact b2, b3⟩
  have b46 : ∀ v, gi (wi (wi r 46 0 u 0) 48 0 u 0) 46 0 v = if v = u then 0 else gi r 46 0 v := fun v => by
    rw [gi_wi, if_neg (by omega), gi_wi]
    simp
  have b48 : ∀ v, gi (wi (wi r 46 0 u 0) 48 0 u 0) 48 0 v = if v = u then 0 else gi r 48 0 v := fun v => by
    rw [gi_wi, gi_wi, if_neg (show ¬ (48 = 46 ∧ 0 = 0 ∧ v = u) by omega)]
    simp
  have b45 : ∀ k s, k ≠ 46 → k ≠ 48 → gi (wi (wi r 46 0 u 0) 48 0 u 0) k 0 s = gi r k 0 s := fun k s h1 h2 => by
    rw [gi_wi, if_neg (by omega), gi_wi, if_neg (by omega)]
  have rf0 : FS [45, 46, 47, 48, 49, 50, 51] r (wi (wi r 46 0 u 0) 48 0 u 0) := FS_wa (by decide) (by decide) (FS_wa (by decide) (by decide) (FS_refl r))
  have hLo : LUo u c c0 r (wi (wi r 46 0 u 0) 48 0 u 0) := ⟨fun v hv => ⟨by rw [a18, if_neg hv], by rw [a21, if_neg hv], fun s => a17 v s, fun s => a20 v s⟩, fun v hv => ⟨by rw [b46, if_neg hv], by rw [b48, if_neg hv]⟩, fun s hs => ⟨b45 45 s (by omega) (by omega), b45 47 s (by omega) (by omega)⟩⟩
  have hL0 : ∀ v, v < u → RLj c0 (wi (wi r 46 0 u 0) 48 0 u 0) v := fun v hv => RLj_o (hL v hv) (by omega) hLo
  have hz0 : RLj c0 (wi (wi r 46 0 u 0) 48 0 u 0) u := ⟨0, 0, by omega, by omega, by rw [a18, if_pos rfl]; rfl, by rw [b46, if_pos rfl]; rfl, fun i hi => by omega, by rw [a21, if_pos rfl]; rfl, by rw [b48, if_pos rfl]; rfl, fun i hi => by omega⟩
  have hty : fX8_isType w (nI u) c0 = some (if gi r 38 0 (113 * u) = 0 then 1 else 0) := by
    rw [hW0.cTy, zn_n (by omega)]
    by_cases q : gi r 38 0 (113 * u) = 0
    · rw [if_pos ⟨zin_n hu (by omega), q⟩, if_pos q]
    · rw [if_neg (fun z => q z.2), if_neg q]
  rw [hty, Option.bind_some, qIsTrait (by omega), Option.bind_some]
  rcases (hW.kd hu).2 with q | q
  · have q' : ¬ gi r 38 0 (113 * u) = 1 := by rw [q]; decide
    rw [if_pos q, if_neg n10, if_neg q', if_pos (show (0 : Int32) = 0 from rfl)]
    refine ok2_l (pX2_gatherOver hW0 hu hO0) (fun c1 hc1 => ?_)
    obtain ⟨b, rfl, b1, b2⟩ := hc1
    have cf1 : FS [17, 18, 20, 21, 22, 24, 25, 26, 27, 1209] c (wi c0 22 0 u (nI b)) := FS_wa (by decide) (by decide) cf0
    have hW1 : WLI w d n (wi c0 22 0 u (nI b)) (wi (wi r 46 0 u 0) 48 0 u 0) := WLI_fs hW cf1 (by decide) rf0 (by decide)
    have g1 : ∀ k i s, k ≠ 22 → gi (wi c0 22 0 u (nI b)) k i s = gi c0 k i s := fun k i s hk => by rw [gi_wi, if_neg (by omega)]
    have hO1 : ∀ v, v < u + 1 → OVv (wi c0 22 0 u (nI b)) (fun u => rR r 38 0 u) v := fun v hv z => by
      by_cases y : v = u
      · subst y
        exact ⟨b, b1, by rw [gi_wi, if_pos ⟨rfl, rfl, rfl⟩], b2⟩
      · obtain ⟨b', d1, d2, d3⟩ := hO0 v (by omega) z
        exact ⟨b', d1, by rw [gi_wi, if_neg (by omega)]; exact d2, d3⟩
    have hLo1 : LUo u c0 (wi c0 22 0 u (nI b)) (wi (wi r 46 0 u 0) 48 0 u 0) (wi (wi r 46 0 u 0) 48 0 u 0) := ⟨fun v hv => ⟨g1 _ _ _ (by omega), g1 _ _ _ (by omega), fun s => g1 _ _ _ (by omega), fun s => g1 _ _ _ (by omega)⟩, fun v hv => ⟨rfl, rfl⟩, fun s hs => ⟨rfl, rfl⟩⟩
    have hL1 : ∀ v, v < u → RLj (wi c0 22 0 u (nI b)) (wi (wi r 46 0 u 0) 48 0 u 0) v := fun v hv => RLj_o (hL0 v hv) (by omega) hLo1
    obtain ⟨p, p4, pc, pr, -⟩ := hW.par hu
    have pr1 : gi (wi (wi r 46 0 u 0) 48 0 u 0) 38 0 (113 * u + 2) = nI p := by rw [b45 38 _ (by omega) (by omega)]; exact pr
    rw [qLaysLine_p (by omega) pr p4]
    obtain ⟨a, o, e1, e2, h3, cf2⟩ := load hW1 hu pr1 p4 hL1
    rw [e1, e2, Option.bind_some, Option.bind_some]
    rcases h3 with ⟨h3, r2, rfl, rf2⟩ | ⟨h3, r2, rfl, hRW, rf2⟩
    · rw [h3, if_pos (show (0 : Int32) = 0 from rfl)]
      have cg : ∀ k i s, zisf k = false → k ∉ [24, 25, 26, 1209] → gi a.2 k i s = gi (wi c0 22 0 u (nI b)) k i s := fun k i s hf hk => FSa cf2 i s hf hk
      have rg : ∀ k s, zisf k = false → k ∉ [49, 50, 51] → gi r2 k 0 s = gi (wi (wi r 46 0 u 0) 48 0 u 0) k 0 s := fun k s hf hk => FSa rf2 0 s hf hk
      have hall : ∀ v, v < u + 1 → RLj a.2 r2 v := fun v hv => by
        have h0 : RLj (wi c0 22 0 u (nI b)) (wi (wi r 46 0 u 0) 48 0 u 0) v := by
          by_cases y : v = u
          · subst y
            obtain ⟨L, K, m1, m2, m3, m4, m5, m6, m7, m8⟩ := hz0
            exact ⟨L, K, m1, m2, by rw [g1 _ _ _ (by omega)]; exact m3, m4, fun i hi => by rw [g1 _ _ _ (by omega)]; exact m5 i hi, by rw [g1 _ _ _ (by omega)]; exact m6, m7, fun i hi => by rw [g1 _ _ _ (by omega)]; exact m8 i hi⟩
          · exact hL1 v (by omega)
        obtain ⟨L, K, m1, m2, m3, m4, m5, m6, m7, m8⟩ := h0
        exact ⟨L, K, m1, m2, by rw [cg _ _ _ (by decide) (by decide)]; exact m3, by rw [rg _ _ (by decide) (by decide)]; exact m4, fun i hi => by rw [cg _ _ _ (by decide) (by decide), rg _ _ (by decide) (by decide)]; exact m5 i hi, by rw [cg _ _ _ (by decide) (by decide)]; exact m6, by rw [rg _ _ (by decide) (by decide)]; exact m7, fun i hi => by rw [cg _ _ _ (by decide) (by decide), rg _ _ (by decide) (by decide)]; exact m8 i hi⟩
      refine ok2_some ⟨a.2, r2, rfl, rfl, hall, fun v hv z => ?_, FS_tr cf1 (FS_mono (zss (by decide)) cf2), FS_tr rf0 (FS_mono (zss (by decide)) rf2)⟩
      obtain ⟨b', d1, d2, d3⟩ := hO1 v hv z
      exact ⟨b', d1, by rw [cg _ _ _ (by decide) (by decide)]; exact d2, d3⟩
    · rw [h3, if_neg n10]
      have cg : ∀ k i s, zisf k = false → k ∉ [24, 25, 26, 1209] → gi a.2 k i s = gi (wi c0 22 0 u (nI b)) k i s := fun k i s hf hk => FSa cf2 i s hf hk
      have rg : ∀ k s, zisf k = false → k ∉ [49, 50, 51] → gi (wi (wi r2 50 0 p (nI p)) 51 0 p 0) k 0 s = gi (wi (wi r 46 0 u 0) 48 0 u 0) k 0 s := fun k s hf hk => by
        rw [gi_wi, if_neg (fun y => hk (by rw [y.1]; decide)), gi_wi, if_neg (fun y => hk (by rw [y.1]; decide))]
        exact FSa rf2 0 s hf hk
      obtain ⟨E, H, A, hP, hC, hR⟩ := RWm_pure hRW (by omega) (by omega)
      have k18 : gi a.2 18 0 u = nI 0 := by rw [cg _ _ _ (by decide) (by decide), g1 _ _ _ (by omega), a18, if_pos rfl]; rfl
      have k21 : gi a.2 21 0 u = nI 0 := by rw [cg _ _ _ (by decide) (by decide), g1 _ _ _ (by omega), a21, if_pos rfl]; rfl
      have k46 : gi (wi (wi r2 50 0 p (nI p)) 51 0 p 0) 46 0 u = nI 0 := by rw [rg _ _ (by decide) (by decide), b46, if_pos rfl]; rfl
      have k48 : gi (wi (wi r2 50 0 p (nI p)) 51 0 p 0) 48 0 u = nI 0 := by rw [rg _ _ (by decide) (by decide), b48, if_pos rfl]; rfl
      obtain ⟨c3, r3, e3, e4, ⟨h5, h6⟩, f5, f6⟩ := merge (by omega) hP hC hR k18 k21 k46 k48
      show ok2 _ (((zloop (fX10_laysLine_L157 (nI u) (nI p)) zF (1, wi (wi (wi r2 50 0 p (nI p)) 51 0 p 0) 45 0 (12 * u) (nI u))).bind (fun o18 => zcase o18 (fun y16 => zob (zin (nI u) 12) (some (wi y16.2 46 0 (zn (nI u)) y16.1))) (fun r17 => some r17))).bind _) _
      rw [e3, e4, Option.bind_some, Option.bind_some]
      refine ok2_some ⟨c3, r3, rfl, rfl, fun v hv => ?_, fun v hv z => ?_, FS_tr cf1 (FS_tr (FS_mono (zss (by decide)) cf2) (FS_mono (zss (by decide)) f5)), FS_tr rf0 (FS_tr (FS_mono (zss (by decide)) rf2) (FS_tr (FS_wa (by decide) (by decide) (FS_wa (by decide) (by decide) (FS_refl r2))) (FS_mono (zss (by decide)) f6)))⟩
      · by_cases y : v = u
        · subst y; exact h5
        · refine RLj_o (u := u) ?_ y h6
          obtain ⟨L, K, m1, m2, m3, m4, m5, m6, m7, m8⟩ := hL1 v (by omega)
          exact ⟨L, K, m1, m2, by rw [cg _ _ _ (by decide) (by decide)]; exact m3, by rw [rg _ _ (by decide) (by decide)]; exact m4, fun i hi => by rw [cg _ _ _ (by decide) (by decide), rg _ _ (by decide) (by decide)]; exact m5 i hi, by rw [cg _ _ _ (by decide) (by decide)]; exact m6, by rw [rg _ _ (by decide) (by decide)]; exact m7, fun i hi => by rw [cg _ _ _ (by decide) (by decide), rg _ _ (by decide) (by decide)]; exact m8 i hi⟩
      · obtain ⟨b', d1, d2, d3⟩ := hO1 v hv z
        exact ⟨b', d1, by rw [FSa f5 _ _ (by decide) (by decide), cg _ _ _ (by decide) (by decide)]; exact d2, d3⟩
  · have q' : ¬ gi r 38 0 (113 * u) = 0 := by rw [q]; decide
    rw [if_neg q', if_pos (show (0 : Int32) = 0 from rfl), if_pos q, if_neg n10]
    refine ok2_some ⟨c0, _, rfl, rfl, fun v hv => ?_, fun v hv z => ?_, cf0, rf0⟩
    · by_cases y : v = u
      · subst y; exact hz0
      · exact hL0 v (by omega)
    · by_cases y : v = u
      · subst y
        have z' : rR r 38 0 v 0 = 0 := z
        rw [rR_u0] at z'
        exact absurd z' q'
      · exact hO0 v (by omega) z
