/-! send, answers, alike, origins -/
theorem RFL_fs {n : Nat} {c c' r r' : zM} {ks ks' : List Nat} (h : RFL n c r) (f : FS ks c c') (hk : ∀ k ∈ [11, 12, 13, 17, 18, 20, 21], k ∉ ks) (f' : FS ks' r r') (hk' : ∀ k ∈ [38, 44, 45, 46, 47, 48], k ∉ ks') : RFL n c' r' := by
  have g : ∀ k s, zisf k = false → k ∈ [38, 44, 45, 46, 47, 48] → gi r' k 0 s = gi r k 0 s := fun k s hf hk2 => FSa f' 0 s hf (hk' k hk2)
  have h' : RFL n c r' := by
    refine ⟨fun u m hu hm => ?_, fun u hu => ?_⟩
    · exact RC_cg (h.1 u m hu hm) rfl rfl rfl (fun s _ _ => g 44 s (by decide) (by decide)) (fun s => g 38 s (by decide) (by decide))
    · obtain ⟨L, K, a1, a2, a3, a4, a5, a6, a7, a8⟩ := h.2 u hu
      exact ⟨L, K, a1, a2, a3, by rw [g 46 _ (by decide) (by decide)]; exact a4, fun i hi => by rw [g 45 _ (by decide) (by decide)]; exact a5 i hi, a6, by rw [g 48 _ (by decide) (by decide)]; exact a7, fun i hi => by rw [g 47 _ (by decide) (by decide)]; exact a8 i hi⟩
  have gc : ∀ k i s, zisf k = false → k ∈ [11, 12, 13, 17, 18, 20, 21] → gi c' k i s = gi c k i s := fun k i s hf hk2 => FSa f i s hf (hk k hk2)
  exact RFL_c h' (fun s => gc 11 0 s (by decide) (by decide)) (fun s => gc 12 0 s (by decide) (by decide)) (fun s => gc 13 0 s (by decide) (by decide)) (fun i s => gc 17 i s (by decide) (by decide)) (fun s => gc 18 0 s (by decide) (by decide)) (fun i s => gc 20 i s (by decide) (by decide)) (fun s => gc 21 0 s (by decide) (by decide))
def RunP (w d n : Nat) (r : zM) (c' : zM) (b : Int32 × zM) : Prop := INV c' b.2 ∧ WLI w d n c' b.2 ∧ RFL n c' b.2 ∧ gi c' 6 0 4 = gi b.2 10 0 23 ∧ gi c' 6 0 5 = b.1 ∧ gi c' 6 0 7 = gi b.2 10 0 25 ∧ gi c' 6 0 8 = gi b.2 10 0 26 ∧ gi c' 6 0 9 = gi b.2 10 0 27 ∧ gi c' 6 0 10 = gi b.2 10 0 28 ∧ (∃ k, k ≤ 100 ∧ gi c' 6 0 6 = nI k ∧ gi b.2 10 0 24 = nI k ∧ (gi b.2 10 0 23 = 0 → 1 ≤ k)) ∧ FS [2022, 2023, 2024, 2025, 2026, 2027, 2028] r b.2
theorem run2 {w d n x m : Nat} {c r : zM} (hI : INV c r) (hW : WLI w d n c r) (hR : RFL n c r) (hx : x < n) (hm : m < 26) : ok2 (fX9_runSend (nI x) (nI m) c) (fX10_sends (nI x) (nI m) r) (RunP w d n r) := by
  have h12 := hW.n12
  unfold fX9_runSend fX6_run fX10_sends fX6_run_J99
  rw [hW.1, Option.bind_some]
  generalize hB : wi (wi (wi (wi (wi (wi (wi (wi (wr (wr (wr c 6 0 (some w)) 6 1 (some 0)) 6 2 (some 0)) 6 0 3 (nI x)) 6 0 4 0) 6 0 6 0) 6 0 7 (-1)) 6 0 8 (-1)) 6 0 9 (-1)) 6 0 10 0) 6 0 5 0 = B
  generalize hR0 : wi (wi (wi (wi (wi (wi (wi r 10 0 22 (nI x)) 10 0 23 0) 10 0 24 0) 10 0 25 (-1)) 10 0 26 (-1)) 10 0 27 (-1)) 10 0 28 0 = R0
  have cf : FS [106, 1603, 1604, 1605, 1606, 1607, 1608, 1609, 1610] c B := by
    rw [← hB]
    exact FS_wf (by decide) (by decide) (FS_wf (by decide) (by decide) (FS_wf (by decide) (by decide) (FS_wf (by decide) (by decide) (FS_wf (by decide) (by decide) (FS_wf (by decide) (by decide) (FS_wf (by decide) (by decide) (FS_wf (by decide) (by decide) (FS_wr (by decide) (FS_wr (by decide) (FS_wr (by decide) (FS_refl c)))))))))))
  have rf : FS [2022, 2023, 2024, 2025, 2026, 2027, 2028] r R0 := by
    rw [← hR0]
    exact FS_wf (by decide) (by decide) (FS_wf (by decide) (by decide) (FS_wf (by decide) (by decide) (FS_wf (by decide) (by decide) (FS_wf (by decide) (by decide) (FS_wf (by decide) (by decide) (FS_wf (by decide) (by decide) (FS_refl r)))))))
  have hWB : WLI w d n B R0 := WLI_fs hW cf (by decide) rf (by decide)
  have hRB : RFL n B R0 := RFL_fs hR cf (by decide) rf (by decide)
  have hIB : INV B R0 := INV_r (INV_l hI cf (rel_no (by decide))) rf (rel_no (by decide))
  have b3 : gi B 6 0 3 = nI x := by rw [← hB]; simp [gi_wi]
  have b4 : gi B 6 0 4 = 0 := by rw [← hB]; simp [gi_wi]
  have b5 : gi B 6 0 5 = 0 := by rw [← hB]; simp [gi_wi]
  have b6 : gi B 6 0 6 = 0 := by rw [← hB]; simp [gi_wi]
  have b7 : gi B 6 0 7 = -1 := by rw [← hB]; simp [gi_wi]
  have b8 : gi B 6 0 8 = -1 := by rw [← hB]; simp [gi_wi]
  have b9 : gi B 6 0 9 = -1 := by rw [← hB]; simp [gi_wi]
  have b10 : gi B 6 0 10 = 0 := by rw [← hB]; simp [gi_wi]
  have g0 : gr B 6 0 = some w := by rw [← hB]; simp [gr_wi, gr_wr]
  have g1 : gr B 6 1 = some 0 := by rw [← hB]; simp [gr_wi, gr_wr]
  have g2 : gr B 6 2 = some 0 := by rw [← hB]; simp [gr_wi, gr_wr]
  have d22 : gi R0 10 0 22 = nI x := by rw [← hR0]; simp [gi_wi]
  have d23 : gi R0 10 0 23 = 0 := by rw [← hR0]; simp [gi_wi]
  have d24 : gi R0 10 0 24 = 0 := by rw [← hR0]; simp [gi_wi]
  have d25 : gi R0 10 0 25 = -1 := by rw [← hR0]; simp [gi_wi]
  have d26 : gi R0 10 0 26 = -1 := by rw [← hR0]; simp [gi_wi]
  have d27 : gi R0 10 0 27 = -1 := by rw [← hR0]; simp [gi_wi]
  have d28 : gi R0 10 0 28 = 0 := by rw [← hR0]; simp [gi_wi]
  clear hB hR0
  obtain ⟨L, L12, e1, e2, e3⟩ := hRB.ln hx
  rw [g2, zob_t _ (show (some 0 == some 0) = true from rfl), zo _ (by omega) (by omega), zo _ (by omega) (by omega), zn_n (by omega), e1, e2]
  by_cases z : L = 0
  · rw [z, if_pos (show nI 0 = 0 from rfl), if_pos (show nI 0 = 0 from rfl), Option.bind_some]
    have f1 : FS [1604] B (wi B 6 0 4 4) := FS_wf (by decide) (by decide) (FS_refl B)
    have f2 : FS [2023] R0 (wi R0 10 0 23 4) := FS_wf (by decide) (by decide) (FS_refl R0)
    refine ok2_some ⟨INV_r (INV_l hIB f1 (rel_no (by decide))) f2 (rel_no (by decide)), WLI_fs hWB f1 (by decide) f2 (by decide), RFL_fs hRB f1 (by decide) f2 (by decide), ?_, ?_, ?_, ?_, ?_, ?_, ⟨0, by omega, ?_, ?_, ?_⟩, FS_tr rf (FS_mono (zss (by decide)) f2)⟩
    · simp [gi_wi]
    · simp [gi_wi, b5]
    · simp [gi_wi, b7, d25]
    · simp [gi_wi, b8, d26]
    · simp [gi_wi, b9, d27]
    · simp [gi_wi, b10, d28]
    · simp [gi_wi, b6]; rfl
    · simp [gi_wi, d24]; rfl
    · simp [gi_wi]
  · have z' : ¬ nI L = 0 := fun q => z ((nIeq (b := 0) (by omega) (by omega)).mp q)
    rw [if_neg z', if_neg z']
    have hS : STt w d n x B R0 := ⟨hWB, hRB, hx, b3, g0, g1, g2, d22⟩
    have hSd : Sd B R0 B R0 := ⟨FS_refl B, FS_refl R0, ⟨0, by omega, b6, d24⟩, by rw [b4, d23], by rw [b7, d25], by rw [b8, d26], by rw [b9, d27], by rw [b10, d28]⟩
    have hl := look hS 20 0 (by omega) (by omega) m 0 B R0 hm (by omega) hSd ⟨fun _ => b8, fun q => by omega⟩
    obtain ⟨a, b, ea, eb, h1, h2, -, h3⟩ := hl
    have ea' : fX6_lookFor_n 20 (nI m) 0 0 B = some a := ea
    have eb' : fX10_calls_n 20 (nI m) 0 0 R0 = some b := eb
    rw [ea', eb', Option.bind_some, Option.bind_some]
    obtain ⟨k1, k2, ⟨kc, kc1, kc2, kc3⟩, k3, k4, k5, k6, k7⟩ := h2
    obtain ⟨kd', kd1, kd2, kd3⟩ := h3
    have ek : kd' = kc := (nIeq (by omega) (by omega)).mp (kd3.symm.trans kc2)
    have fin : ∀ v : Int32, RunP w d n r (wi a.2 6 0 5 v) (v, b.2) := fun v => by
      have f1 : FS [1604, 1605, 1606, 1607, 1608, 1609, 1610] B (wi a.2 6 0 5 v) := FS_wf (by decide) (by decide) k1
      refine ⟨INV_r (INV_l hIB f1 (rel_no (by decide))) k2 (rel_no (by decide)), WLI_fs hWB f1 (by decide) k2 (by decide), RFL_fs hRB f1 (by decide) k2 (by decide), ?_, ?_, ?_, ?_, ?_, ?_, ⟨kc, kc1, ?_, kc3, fun _ => by omega⟩, FS_tr rf (FS_mono (zss (by decide)) k2)⟩
      · simp [gi_wi, k3]
      · simp [gi_wi]
      · simp [gi_wi, k4]
      · simp [gi_wi, k5]
      · simp [gi_wi, k6]
      · simp [gi_wi, k7]
      · simp [gi_wi, kc2]
    rw [k3]
    by_cases y : gi b.2 10 0 23 = 0
    · rw [if_pos y, if_pos y, Option.bind_some, h1]
      exact ok2_some (fin b.1)
    · rw [if_neg y, if_neg y, Option.bind_some]
      exact ok2_some (fin 0)
theorem call_send (v1 v2 v3 : Int32) : CALL (fX9_send v1 v2 v3) (fX10_send v1 v2 v3) := fun c r hI => by
  obtain ⟨t, w, d, n, a, b, h, nx, hT, hW, hS, hH, hF⟩ := id hI
  have h12 := hW.n12
  unfold fX9_send fX10_send
  simp only [hW.1, hW.cTy, hW.rTy, Option.bind_some, pX9_isLetter, qIn26]
  by_cases t1 : zin v1 n = true ∧ gi r 38 0 (113 * zn v1) = 0
  rotate_left
  · rw [if_neg t1]; exact ok2_some ⟨rfl, hI⟩
  rw [if_pos t1, if_neg n10, if_neg n10]
  by_cases t2 : zin v2 26 = true
  rotate_left
  · rw [if_neg t2]; exact ok2_some ⟨rfl, hI⟩
  rw [if_pos t2, if_neg n10, if_neg n10]
  obtain ⟨x, hx, rfl, hx3⟩ := zin_e t1.1
  obtain ⟨m, hm, rfl, hm3⟩ := zin_e t2
  obtain ⟨c1, r1, e1, e2, hI1, hW1, hR, -⟩ := lay3 hI hW
  obtain ⟨c2, b2, e3, e4, p1, p2, p3, p4, p5, p6, p7, p8, p9, ⟨kc, q1, q2, q3, q4⟩, pf⟩ := run2 hI1 hW1 hR hx hm
  rw [e2, Option.bind_some, e4, Option.bind_some]
  have f := frX10_lays_ (ks := [44, 45, 46, 47, 48, 49, 50, 51]) (fun k h => h) (FS_refl r) r1 e2
  have hIo : INV c b2.2 := INV_r (INV_r hI f (rel_no (by decide))) pf (rel_no (by decide))
  by_cases t3 : zin v3 6 = true
  · obtain ⟨q, hq, rfl, hq3⟩ := zin_e t3
    rw [if_neg (nI_pos (by omega)), if_pos (show nI q ≤ 5 from (nIle (b := 5) (by omega) (by omega)).mpr (by omega)), e1, Option.bind_some, e3, Option.bind_some]
    refine ok2_if Iff.rfl (fun _ _ => ok2_some ⟨p4, p1⟩) (fun n0 _ => ?_)
    refine ok2_if Iff.rfl (fun _ _ => ok2_some ⟨p5, p1⟩) (fun n1 _ => ?_)
    refine ok2_if Iff.rfl (fun _ _ => ok2_some ⟨q2.trans q3.symm, p1⟩) (fun n2 _ => ?_)
    refine ok2_if Iff.rfl (fun _ _ => ok2_some ⟨p6, p1⟩) (fun n3 _ => ?_)
    refine ok2_if Iff.rfl (fun _ _ => ok2_some ⟨p7, p1⟩) (fun n4 _ => ?_)
    have q5 : q = 5 := by
      have a0 : q ≠ 0 := fun y => n0 (by rw [y]; rfl)
      have a1 : q ≠ 1 := fun y => n1 (by rw [y]; rfl)
      have a2 : q ≠ 2 := fun y => n2 (by rw [y]; rfl)
      have a3 : q ≠ 3 := fun y => n3 (by rw [y]; rfl)
      have a4 : q ≠ 4 := fun y => n4 (by rw [y]; rfl)
      omega
    rw [if_pos (show nI q = 5 by rw [q5]; rfl)]
    exact ok2_some ⟨p8, p1⟩
  · have hn : ∀ k : Nat, k < 6 → ¬ v3 = nI k := fun k hk y => t3 (by rw [y]; exact zin_n hk (by omega))
    rw [if_neg (show ¬ v3 = 0 from hn 0 (by omega)), if_neg (show ¬ v3 = 1 from hn 1 (by omega)), if_neg (show ¬ v3 = 2 from hn 2 (by omega)), if_neg (show ¬ v3 = 3 from hn 3 (by omega)), if_neg (show ¬ v3 = 4 from hn 4 (by omega)), if_neg (show ¬ v3 = 5 from hn 5 (by omega))]
    by_cases h0 : v3 < 0
    · rw [if_pos h0]; exact ok2_some ⟨rfl, hIo⟩
    · obtain ⟨j, hj, rfl⟩ := nI_of h0
      have : ¬ j < 6 := fun q => t3 (zin_n q (by omega))
      rw [if_neg h0, if_neg (show ¬ nI j ≤ 5 from fun q => by have := (nIle (b := 5) (by omega) (by omega)).mp q; omega)]
      exact ok2_some ⟨rfl, hIo⟩
theorem call_origins (v1 v2 : Int32) : CALL (fX9_origins v1 v2) (fX10_origins v1 v2) := fun c r hI => by
  obtain ⟨t, w, d, n, a, b, h, nx, hT, hW, hS, hH, hF⟩ := id hI
  have h12 := hW.n12
  unfold fX9_origins fX10_origins
  simp only [hW.1, hW.cTy, hW.rTy, Option.bind_some, pX9_isLetter, qIn26]
  by_cases t1 : zin v1 n = true ∧ gi r 38 0 (113 * zn v1) = 0
  rotate_left
  · rw [if_neg t1]; exact ok2_some ⟨rfl, hI⟩
  rw [if_pos t1, if_neg n10, if_neg n10]
  by_cases t2 : zin v2 26 = true
  rotate_left
  · rw [if_neg t2]; exact ok2_some ⟨rfl, hI⟩
  rw [if_pos t2, if_neg n10, if_neg n10]
  obtain ⟨x, hx, rfl, hx3⟩ := zin_e t1.1
  obtain ⟨m, hm, rfl, hm3⟩ := zin_e t2
  refine ok2_bind (lay3 hI hW) (fun c1 r1 h1 => ?_)
  refine ok2_bind (run2 h1.1 h1.2.1 h1.2.2.1 hx hm) (fun c2 b2 h2 => ?_)
  obtain ⟨p1, p2, p3, p4, p5, p6, p7, p8, p9, -⟩ := h2
  exact ok2_some ⟨p9, p1⟩
theorem call_answers (v1 : Int32) : CALL (fX9_answers v1) (fX10_answers v1) := fun c r hI => by
  obtain ⟨t, w, d, n, a, b, h, nx, hT, hW, hS, hH, hF⟩ := id hI
  have h12 := hW.n12
  unfold fX9_answers fX10_answers
  simp only [hW.1, hW.cTy, hW.rTy, Option.bind_some]
  by_cases t1 : zin v1 n = true ∧ gi r 38 0 (113 * zn v1) = 0
  rotate_left
  · rw [if_neg t1]; exact ok2_some ⟨rfl, hI⟩
  rw [if_pos t1, if_neg n10, if_neg n10]
  obtain ⟨x, hx, rfl, hx3⟩ := zin_e t1.1
  refine ok2_bind (lay3 hI hW) (fun c1 r1 h1 => ?_)
  refine ok2_bind (P := fun o o' => ∃ s c' r', o = Sum.inl (s, c') ∧ o' = Sum.inl (s, r') ∧ INV c' r') ?_ (fun o o' ho => ?_)
  · refine ok2_for (fun i s t => s.1 = t.1 ∧ s.2.1 = nI i ∧ t.2.1 = nI i ∧ INV s.2.2 t.2.2 ∧ WLI w d n s.2.2 t.2.2 ∧ RFL n s.2.2 t.2.2) (a := 0) (b := 26) (by omega) (by unfold zF; omega) (by unfold zF; omega) ⟨rfl, rfl, rfl, h1.1, h1.2.1, h1.2.2.1⟩ (fun i s t _ hi hI2 => ?_) (fun s t hI2 => ?_)
    · obtain ⟨s1, s2, cc⟩ := s
      obtain ⟨t1, t2, rr⟩ := t
      obtain ⟨i1, i2, i3, i4, i5, i6⟩ := hI2
      dsimp only at i1 i2 i3 i4 i5 i6
      subst i1; subst i2; subst i3
      unfold fX9_answers_L21 fX10_answers_L18
      dsimp only
      rw [l26]
      refine ok2_fl (fun q => by have := (nIle (by omega) (by omega)).mp q; omega) (ok2_fr' (fun q => by have := (nIle (by omega) (by omega)).mp q; omega) ?_)
      refine ok2_bind (run2 i4 i5 i6 hx hi) (fun c2 b2 h2 => ?_)
      obtain ⟨p1, p2, p3, p4, -⟩ := h2
      rw [p4, nI_1, Int32.or_zero]
      exact ok2_if Iff.rfl (fun _ _ => ok2_some (Or.inl ⟨_, _, rfl, rfl, rfl, rfl, rfl, p1, p2, p3⟩)) (fun _ _ => ok2_some (Or.inl ⟨_, _, rfl, rfl, rfl, rfl, rfl, p1, p2, p3⟩))
    · obtain ⟨s1, s2, cc⟩ := s
      obtain ⟨t1, t2, rr⟩ := t
      obtain ⟨i1, i2, i3, i4, i5, i6⟩ := hI2
      dsimp only at i1 i2 i3 i4 i5 i6
      subst i1; subst i2; subst i3
      unfold fX9_answers_L21 fX10_answers_L18
      dsimp only
      rw [l26, if_pos (Int32.le_refl _), if_pos (Int32.le_refl _)]
      exact ok2_some ⟨_, _, rfl, rfl, _, _, _, rfl, rfl, i4⟩
  · obtain ⟨s, c', r', rfl, rfl, hh⟩ := ho
    exact ok2_some ⟨rfl, hh⟩
theorem call_alike (v1 v2 : Int32) : CALL (fX9_alike v1 v2) (fX10_alike v1 v2) := fun c r hI => by
  obtain ⟨t, w, d, n, a, b, h, nx, hT, hW, hS, hH, hF⟩ := id hI
  have h12 := hW.n12
  unfold fX9_alike fX10_alike
  simp only [hW.1, hW.cTy, hW.rTy, Option.bind_some]
  by_cases t1 : zin v1 n = true ∧ gi r 38 0 (113 * zn v1) = 0
  rotate_left
  · rw [if_neg t1]; exact ok2_some ⟨rfl, hI⟩
  rw [if_pos t1, if_neg n10, if_neg n10]
  by_cases t2 : zin v2 n = true ∧ gi r 38 0 (113 * zn v2) = 0
  rotate_left
  · rw [if_neg t2]; exact ok2_some ⟨rfl, hI⟩
  rw [if_pos t2, if_neg n10, if_neg n10]
  obtain ⟨x, hx, rfl, hx3⟩ := zin_e t1.1
  obtain ⟨y, hy, rfl, hy3⟩ := zin_e t2.1
  refine ok2_bind (lay3 hI hW) (fun c1 r1 h1 => ?_)
  refine ok2_bind (P := fun o o' => (∃ c' r', o = Sum.inl c' ∧ o' = Sum.inl r' ∧ INV c' r') ∨ ∃ c' r', o = Sum.inr (0, c') ∧ o' = Sum.inr (0, r') ∧ INV c' r') ?_ (fun o o' ho => ?_)
  · refine ok2_for (fun i s t => s.1 = nI i ∧ t.1 = nI i ∧ INV s.2 t.2 ∧ WLI w d n s.2 t.2 ∧ RFL n s.2 t.2) (a := 0) (b := 26) (by omega) (by unfold zF; omega) (by unfold zF; omega) ⟨rfl, rfl, h1.1, h1.2.1, h1.2.2.1⟩ (fun i s t _ hi hI2 => ?_) (fun s t hI2 => ?_)
    · obtain ⟨s1, cc⟩ := s
      obtain ⟨t1, rr⟩ := t
      obtain ⟨i2, i3, i4, i5, i6⟩ := hI2
      dsimp only at i2 i3 i4 i5 i6
      subst i2; subst i3
      unfold fX9_alike_L30 fX10_alike_L24
      dsimp only
      rw [l26]
      refine ok2_fl (fun q => by have := (nIle (by omega) (by omega)).mp q; omega) (ok2_fr' (fun q => by have := (nIle (by omega) (by omega)).mp q; omega) ?_)
      refine ok2_bind (run2 i4 i5 i6 hx hi) (fun c2 b2 h2 => ?_)
      obtain ⟨p1, p2, p3, p4, p5, -⟩ := h2
      refine ok2_bind (run2 p1 p2 p3 hy hi) (fun c3 b3 h3 => ?_)
      obtain ⟨q1, q2, q3, q4, q5, -⟩ := h3
      rw [p4, p5, q4, q5, nI_1]
      by_cases z1 : gi b3.2 10 0 23 = gi b2.2 10 0 23
      · rw [if_pos z1]
        by_cases z2 : b3.1 = b2.1
        · rw [if_pos z2, if_pos z2, if_pos z1]
          exact ok2_some (Or.inl ⟨_, _, rfl, rfl, rfl, rfl, q1, q2, q3⟩)
        · rw [if_neg z2, if_neg z2]
          exact ok2_some (Or.inr ⟨_, _, rfl, rfl, Or.inr ⟨_, _, rfl, rfl, q1⟩⟩)
      · rw [if_neg z1]
        by_cases z2 : b3.1 = b2.1
        · rw [if_pos z2, if_neg z1]
          exact ok2_some (Or.inr ⟨_, _, rfl, rfl, Or.inr ⟨_, _, rfl, rfl, q1⟩⟩)
        · rw [if_neg z2]
          exact ok2_some (Or.inr ⟨_, _, rfl, rfl, Or.inr ⟨_, _, rfl, rfl, q1⟩⟩)
    · obtain ⟨s1, cc⟩ := s
      obtain ⟨t1, rr⟩ := t
      obtain ⟨i2, i3, i4, i5, i6⟩ := hI2
      dsimp only at i2 i3 i4 i5 i6
      subst i2; subst i3
      unfold fX9_alike_L30 fX10_alike_L24
      dsimp only
      rw [l26, if_pos (Int32.le_refl _), if_pos (Int32.le_refl _)]
      exact ok2_some ⟨_, _, rfl, rfl, Or.inl ⟨_, _, rfl, rfl, i4⟩⟩
  · rcases ho with ⟨c', r', rfl, rfl, hh⟩ | ⟨c', r', rfl, rfl, hh⟩
    · exact ok2_some ⟨rfl, hh⟩
    · exact ok2_some ⟨rfl, hh⟩
