/-! undo, keep, back -/
theorem call_undo : CALL fX9_undo fX10_undo := fun c r hI => by
  obtain ⟨t, w, d, n, a, b, h, nx, hT, hW, hS, hH, hF⟩ := id hI
  obtain ⟨w1, w2, w3, w4, w5, w6, w7, w8⟩ := id hW
  have h12 := hW.n12
  obtain ⟨p1, p2, p3, p4, p5, W, q1, q2⟩ := hH
  unfold fX9_undo fX10_undo
  rw [p3, p4, l0]
  by_cases h0 : h = 0
  · subst h0
    rw [if_pos rfl, if_pos rfl]
    exact ok2_some ⟨rfl, hI⟩
  have h0' : ¬ nI h = nI 0 := fun z => h0 ((nIeq (by omega) (by omega)).mp z)
  rw [if_neg h0', if_neg h0', w1, Option.bind_some]
  obtain ⟨x, x1, x2, x3, x4, x5⟩ := q2 0 (by omega)
  rw [Nat.sub_zero] at x2 x3 x4 x5
  have hz : zbo (gi c 7 (48 + (nx + 9) % 10) 0) = true := by
    have h1 := (x4.2 x x1).1.1
    have e : W 1 x = uC c (48 + (nx + 9) % 10) := by rw [x3 x x1, if_pos rfl]
    have e2 : uC c (48 + (nx + 9) % 10) 0 = rR r 40 (1357 * (h - 1)) x 0 := by rw [← e]; exact h1.2.1
    rw [uC_7 (by omega)] at e2
    rw [e2]
    exact zbo_of h1.1
  refine ok2_l (pX1_restoreLast p5 p2 p3 p1 (by omega) x2 (by omega) (by omega) hz) (fun c1 hc1 => ?_)
  obtain ⟨⟨c1a, c1b, c1c⟩, cf⟩ := hc1
  have k1 : gi (wi r 10 0 5 (nI (h - 1))) 10 0 5 = nI (h - 1) := by rw [gi_wi, if_pos ⟨rfl, rfl, rfl⟩]
  rw [l1, pk_sub (by omega), k1, l1357, pk_mul]
  refine ok2_r (qMoves_40_38 (by omega) (wi r 10 0 5 (nI (h - 1)))) (fun r1 hr1 => ?_)
  obtain ⟨r1a, rf⟩ := hr1
  have g5 : gi r1 10 0 5 = nI (h - 1) := by rw [FSf rf 0 (by decide) (by decide)]; exact k1
  have gr' : ∀ k i s, zisf k = false → k ≠ 38 → gi r1 k i s = gi r k i s := fun k i s hf hk => by
    rw [FSa rf i s hf (by simp [hk]), gi_wi, if_neg (fun q => by rw [q.1] at hf; revert hf; decide)]
  have gc : ∀ k i s, zisf k = false → k ∉ [5, 7, 30, 31, 32, 33, 34, 1102, 1103] → gi (wi c1 9 0 12 1) k i s = gi c k i s := fun k i s hf hk => by
    rw [gi_wi, if_neg (fun q => by rw [q.1] at hf; revert hf; decide), FSa cf i s hf hk]
  have gu : ∀ q, uC (wi c1 9 0 12 1) q = if q = 12 * w + x then uC c (48 + (nx + 9) % 10) else uC c q := fun q => by rw [uC_w0 (by decide)]; exact c1a q
  have e38 : ∀ s, s < 1357 → gi r1 38 0 s = gi r 40 0 (1357 * (h - 1) + s) := fun s hs => by
    rw [r1a, if_pos ⟨rfl, rfl, by omega, by omega⟩, Nat.sub_zero, gi_wi, if_neg (by omega)]
  refine ok2_some ⟨?_, t, w, d, n, a, b, h - 1, (nx + 9) % 10, ?_, ?_, ?_, ?_, Or.inl ?_⟩
  · show gi (wi c1 9 0 12 (nI 1)) 1 0 3 = gi r1 10 0 5
    rw [gi_wi, if_neg (by omega), c1c, g5]
  · refine ⟨hT.1, ?_, ?_, fun i hi => ?_⟩
    · show gi (wi c1 9 0 12 1) 9 0 1 = nI t
      rw [gi_wi, if_neg (by omega), FSf cf 0 (by decide) (by decide)]; exact hT.2.1
    · show gi r1 10 0 7 = nI t
      rw [FSf rf 0 (by decide) (by decide), gi_wi, if_neg (by omega)]; exact hT.2.2.1
    · show gi (wi c1 9 0 12 1) 36 0 i = gi r1 43 0 i ∧ byt (gi (wi c1 9 0 12 1) 36 0 i)
      rw [gc 36 0 i (by decide) (by decide), gr' 43 0 i (by decide) (by decide)]; exact hT.2.2.2 i hi
  · refine ⟨?_, ?_, w3, w4, w5, ?_, ?_, ?_⟩
    · show gr c1 9 2 = some w
      rw [FSr cf 2 (by decide)]; exact w1
    · show gr c1 9 3 = some d
      rw [FSr cf 3 (by decide)]; exact w2
    · show gi (wi c1 9 0 12 1) 8 w 1 = nI n
      rw [gc 8 w 1 (by decide) (by decide)]; exact w6
    · show gi r1 38 0 1356 = nI n
      rw [e38 _ (by omega)]; exact x5
    · refine RelW_cg x4 (fun u hu => ?_) (fun u hu => rR_cg (fun s hs => ?_))
      · show uC (wi c1 9 0 12 1) (12 * w + u) = W (0 + 1) u
        rw [gu, x3 u hu]
        by_cases z : u = x
        · rw [if_pos (by omega), if_pos z]
        · rw [if_neg (by omega), if_neg z, q1 u hu]
      · rw [Nat.zero_add, e38 _ (by omega)]
  · obtain ⟨s1, s2, s3, s4, s5, s6, s7⟩ := hS
    refine ⟨s1, s2, ?_, by show gi r1 42 0 0 = _; rw [gr' 42 0 0 (by decide) (by decide)]; exact s4, by show gi r1 42 0 1 = _; rw [gr' 42 0 1 (by decide) (by decide)]; exact s5, fun q => ?_, fun q => ?_⟩
    · show gi (wi c1 9 0 12 1) 9 0 5 = _
      rw [gi_wi, if_neg (by omega), FSf cf 0 (by decide) (by decide)]; exact s3
    · obtain ⟨n', y1, y2, y3⟩ := s6 q
      have := y3.1
      exact ⟨n', by show gi (wi c1 9 0 12 1) 8 _ 1 = _; rw [gc 8 _ 1 (by decide) (by decide)]; exact y1, by show gi r1 41 0 _ = _; rw [gr' 41 0 _ (by decide) (by decide)]; exact y2, RelW_cg y3 (fun u hun => by show uC (wi c1 9 0 12 1) _ = _; rw [gu, if_neg (by omega)]) (fun u _ => rR_cg (fun s _ => gr' 41 0 _ (by decide) (by decide)))⟩
    · obtain ⟨n', y1, y2, y3⟩ := s7 q
      have := y3.1
      exact ⟨n', by show gi (wi c1 9 0 12 1) 8 _ 1 = _; rw [gc 8 _ 1 (by decide) (by decide)]; exact y1, by show gi r1 41 0 _ = _; rw [gr' 41 0 _ (by decide) (by decide)]; exact y2, RelW_cg y3 (fun u hun => by show uC (wi c1 9 0 12 1) _ = _; rw [gu, if_neg (by omega)]) (fun u _ => rR_cg (fun s _ => gr' 41 0 _ (by decide) (by decide)))⟩
  · refine ⟨by omega, by omega, ?_, g5, ?_, fun j => W (j + 1), fun u hu => ?_, fun j hj => ?_⟩
    · show gi (wi c1 9 0 12 1) 1 0 3 = _
      rw [gi_wi, if_neg (by omega)]; exact c1c
    · show gi (wi c1 9 0 12 1) 1 0 2 = _
      rw [gi_wi, if_neg (by omega)]; exact c1b
    · show W (0 + 1) u = uC (wi c1 9 0 12 1) (12 * w + u)
      rw [gu, x3 u hu]
      by_cases z : u = x
      · rw [if_pos z, if_pos (by omega)]
      · rw [if_neg z, if_neg (by omega), q1 u hu]
    · obtain ⟨x', y1, y2, y3, y4, y5⟩ := q2 (j + 1) (by omega)
      have ei : ((nx + 9) % 10 + 9 - j) % 10 = (nx + 9 - (j + 1)) % 10 := by omega
      have ej : h - 1 - 1 - j = h - 1 - (j + 1) := by omega
      refine ⟨x', y1, ?_, fun u hu => ?_, ?_, ?_⟩
      · show gi (wi c1 9 0 12 1) 15 0 _ = _
        rw [ei, gc 15 0 _ (by decide) (by decide)]; exact y2
      · show W (j + 1 + 1) u = if u = x' then uC (wi c1 9 0 12 1) _ else W (j + 1) u
        have e48 : uC (wi c1 9 0 12 1) (48 + (nx + 9 - (j + 1)) % 10) = uC c (48 + (nx + 9 - (j + 1)) % 10) := by rw [gu, if_neg (by omega)]
        rw [ei, e48]; exact y3 u hu
      · rw [ej]
        exact RelW_cg y4 (fun u _ => rfl) (fun u _ => rR_cg (fun s _ => gr' 40 0 _ (by decide) (by decide)))
      · show gi r1 40 0 _ = _
        rw [ej, gr' 40 0 _ (by decide) (by decide)]; exact y5
  · show gi (wi c1 9 0 12 1) 9 0 12 = 1
    rw [gi_wi, if_pos ⟨rfl, rfl, rfl⟩]
/-- a small number between 0 and n - 1, as the class asks -/
theorem lt2 {v : Int32} {α : Type} {x y : Option α} : (if v < 0 then y else if v < 2 then x else y) = if zin v 2 = true then x else y := by
  by_cases h0 : v < 0
  · rw [if_pos h0, if_neg (fun q => zin_vp q (Or.inl h0))]
  · rw [if_neg h0]
    obtain ⟨j, hj, rfl⟩ := nI_of h0
    rw [l2]
    by_cases h1 : j < 2
    · rw [if_pos ((nIlt (by omega) (by omega)).mpr h1), if_pos (zin_n h1 (by omega))]
    · rw [if_neg (fun q => h1 ((nIlt (by omega) (by omega)).mp q)), if_neg (fun q => by have := zin_z q; rw [zn_n hj] at this; omega)]
theorem call_keep (v1 : Int32) : CALL (fX9_keep v1) (fX10_keep v1) := fun c r hI => by
  obtain ⟨t, w, d, n, a, b, h, nx, hT, hW, hS, hH, hF⟩ := id hI
  obtain ⟨w1, w2, w3, w4, w5, w6, w7, w8⟩ := id hW
  have h12 := hW.n12
  unfold fX9_keep fX10_keep
  rw [lt2, qIn2, Option.bind_some]
  by_cases t1 : zin v1 2 = true
  rotate_left
  · rw [if_neg t1, if_neg t1]; exact ok2_some ⟨rfl, hI⟩
  rw [if_pos t1, if_pos t1, if_neg n10, zob_t _ t1, w1, Option.bind_some]
  obtain ⟨k, hk, rfl, hk3⟩ := zin_e t1
  rw [zn_n hk3, l1357, pk_mul]
  refine ok2_l (pX8_copyFrom (by omega) w6 h12 (fun u hu => hW.zbo hu)) (fun c1 hc1 => ?_)
  refine ok2_r (qMoves_38_41 (by omega) r) (fun r1 hr1 => ?_)
  obtain ⟨c1a, c1b, cf⟩ := hc1
  obtain ⟨r1a, rf⟩ := hr1
  rw [show gr (wi c1 9 0 5 (gi c1 9 0 5 ||| 1 <<< (nI k &&& 31))) 9 2 = some w from (FSr cf 2 (by decide)).trans w1, Option.bind_some, zob_t _ (zin_n hk (by omega)), n1356]
  obtain ⟨s1, s2, s3, s4, s5, s6, s7⟩ := hS
  have e5 : gi c1 9 0 5 = nI (a + 2 * b) := (FSf cf 0 (by decide) (by decide)).trans s3
  rw [e5]
  have eb : nI (a + 2 * b) ||| 1 <<< (nI k &&& 31) = nI ((if k = 0 then 1 else a) + 2 * (if k = 1 then 1 else b)) := by
    match k, hk, a, s1, b, s2 with
    | 0, _, 0, _, 0, _ => decide
    | 0, _, 0, _, 1, _ => decide
    | 0, _, 1, _, 0, _ => decide
    | 0, _, 1, _, 1, _ => decide
    | 1, _, 0, _, 0, _ => decide
    | 1, _, 0, _, 1, _ => decide
    | 1, _, 1, _, 0, _ => decide
    | 1, _, 1, _, 1, _ => decide
  rw [eb]
  generalize hcv : nI ((if k = 0 then 1 else a) + 2 * (if k = 1 then 1 else b)) = cv
  have gu : ∀ q, uC (wi c1 9 0 5 cv) q = if 12 * (2 + k) ≤ q ∧ q < 12 * (2 + k) + n then uC c (12 * w + (q - 12 * (2 + k))) else uC c q := fun q => by rw [uC_w0 (by decide)]; exact c1a q
  have gc : ∀ k' i s, zisf k' = false → k' ∉ [5, 7, 8, 30, 31, 32, 33, 34] → gi (wi c1 9 0 5 cv) k' i s = gi c k' i s := fun k' i s hf hk' => by
    rw [gi_wi, if_neg (fun q => by rw [q.1] at hf; revert hf; decide), FSa cf i s hf hk']
  have g8 : ∀ i s, gi (wi c1 9 0 5 cv) 8 i s = if i = 2 + k ∧ s = 1 then nI n else gi c 8 i s := fun i s => by
    rw [gi_wi, if_neg (by omega), c1b]
  have g9 : ∀ s, s ≠ 5 → gi (wi c1 9 0 5 cv) 9 0 s = gi c 9 0 s := fun s hs => by
    rw [gi_wi, if_neg (by omega)]
    refine FSf cf 0 (by decide) (fun q => ?_)
    simp at q
    omega
  have g1 : ∀ s, gi (wi c1 9 0 5 cv) 1 0 s = gi c 1 0 s := fun s => by
    rw [gi_wi, if_neg (by omega)]
    refine FSf cf 0 (by decide) (fun q => ?_)
    simp at q
    omega
  have gr' : ∀ k' i s, zisf k' = false → k' ≠ 41 → k' ≠ 42 → gi (wi r1 42 0 k (1 &&& 1)) k' i s = gi r k' i s := fun k' i s hf h1 h2 => by
    rw [gi_wi, if_neg (fun q => h2 q.1), FSa rf i s hf (by simp [h1])]
  have g10 : ∀ s, gi (wi r1 42 0 k (1 &&& 1)) 10 0 s = gi r 10 0 s := fun s => by
    rw [gi_wi, if_neg (by omega)]
    refine FSf rf 0 (by decide) (fun q => ?_)
    simp at q
    omega
  have g41 : ∀ s, gi (wi r1 42 0 k (1 &&& 1)) 41 0 s = if 1357 * k ≤ s ∧ s < 1357 * k + 1357 then gi r 38 0 (s - 1357 * k) else gi r 41 0 s := fun s => by
    rw [gi_wi, if_neg (by omega), r1a]
    by_cases z : 1357 * k ≤ s ∧ s < 1357 * k + 1357
    · rw [if_pos ⟨rfl, rfl, z⟩, if_pos z, Nat.zero_add]
    · rw [if_neg (fun q => z q.2.2), if_neg z]
  have g42 : ∀ s, gi (wi r1 42 0 k (1 &&& 1)) 42 0 s = if s = k then 1 else gi r 42 0 s := fun s => by
    rw [gi_wi, FSa rf 0 s (by decide) (by decide)]
    by_cases z : s = k
    · rw [if_pos ⟨rfl, rfl, z⟩, if_pos z]; decide
    · rw [if_neg (fun q => z q.2.2), if_neg z]
  generalize hC2 : wi c1 9 0 5 cv = c2 at gu gc g8 g9 g1
  generalize hR2 : wi r1 42 0 k (1 &&& 1) = r2 at gr' g10 g41 g42
  have hS1 : SH1 k c2 r2 := by
    refine ⟨n, by rw [g8, if_pos ⟨rfl, rfl⟩], by rw [g41, if_pos ⟨by omega, by omega⟩, show 1357 * k + 1356 - 1357 * k = 1356 by omega]; exact w7, RelW_cg w8 (fun u hu => ?_) (fun u hu => rR_cg (fun s hs => ?_))⟩
    · show uC c2 (12 * (2 + k) + u) = uC c (12 * w + u)
      rw [gu, if_pos ⟨by omega, by omega⟩, show 12 * (2 + k) + u - 12 * (2 + k) = u by omega]
    · rw [g41, if_pos ⟨by omega, by omega⟩, show 1357 * k + (113 * u + s) - 1357 * k = 0 + (113 * u + s) by omega]
  have hSo : ∀ j, j < 2 → j ≠ k → SH1 j c r → SH1 j c2 r2 := fun j hj hne hs => by
    obtain ⟨n', y1, y2, y3⟩ := hs
    have hn' := y3.1
    refine ⟨n', by rw [g8, if_neg (by omega)]; exact y1, by rw [g41, if_neg (by omega)]; exact y2, RelW_cg y3 (fun u hu => ?_) (fun u hu => rR_cg (fun s hs => ?_))⟩
    · show uC c2 (12 * (2 + j) + u) = uC c (12 * (2 + j) + u)
      rw [gu, if_neg (by omega)]
    · rw [g41, if_neg (by omega)]
  have hcv9 : gi c2 9 0 5 = cv := by rw [← hC2, gi_wi, if_pos ⟨rfl, rfl, rfl⟩]
  have hgr : ∀ s, gr c2 9 s = gr c 9 s := fun s => by rw [← hC2]; exact FSr cf s (by decide)
  refine ok2_some ⟨?_, t, w, d, n, if k = 0 then 1 else a, if k = 1 then 1 else b, h, nx, ?_, ?_, ?_, ?_, ?_⟩
  · show gi c2 8 w 1 = gi r2 38 0 1356
    rw [g8, if_neg (by omega), w6, gr' 38 0 _ (by decide) (by decide) (by decide), w7]
  · refine ⟨hT.1, by rw [g9 1 (by omega)]; exact hT.2.1, by rw [g10]; exact hT.2.2.1, fun i hi => ?_⟩
    rw [gc 36 0 i (by decide) (by decide), gr' 43 0 i (by decide) (by decide) (by decide)]; exact hT.2.2.2 i hi
  · refine ⟨by rw [hgr]; exact w1, by rw [hgr]; exact w2, w3, w4, w5, by rw [g8, if_neg (by omega)]; exact w6, by rw [gr' 38 0 _ (by decide) (by decide) (by decide)]; exact w7, RelW_cg w8 (fun u hu => ?_) (fun u hu => rR_cg (fun s hs => gr' 38 0 _ (by decide) (by decide) (by decide)))⟩
    show uC c2 (12 * w + u) = uC c (12 * w + u)
    rw [gu, if_neg (by omega)]
  · refine ⟨by split <;> omega, by split <;> omega, by rw [hcv9, hcv], ?_, ?_, fun q => ?_, fun q => ?_⟩
    · rw [g42]
      by_cases z : k = 0
      · rw [if_pos z.symm, if_pos z]; rfl
      · rw [if_neg (fun q => z q.symm), if_neg z]; exact s4
    · rw [g42]
      by_cases z : k = 1
      · rw [if_pos z.symm, if_pos z]; rfl
      · rw [if_neg (fun q => z q.symm), if_neg z]; exact s5
    · by_cases z : k = 0
      · rw [← z]; exact hS1
      · rw [if_neg z] at q
        exact hSo 0 (by omega) (by omega) (s6 q)
    · by_cases z : k = 1
      · rw [← z]; exact hS1
      · rw [if_neg z] at q
        exact hSo 1 (by omega) (by omega) (s7 q)
  · obtain ⟨p1, p2, p3, p4, p5, W, p6, p7⟩ := hH
    refine ⟨p1, p2, by rw [g1]; exact p3, by rw [g10]; exact p4, by rw [g1]; exact p5, W, fun u hun => by rw [gu, if_neg (by omega)]; exact p6 u hun, fun j hj => ?_⟩
    obtain ⟨x, x1, x2, x3, x4, x5⟩ := p7 j hj
    have e48 : uC c2 (48 + (nx + 9 - j) % 10) = uC c (48 + (nx + 9 - j) % 10) := by rw [gu, if_neg (by omega)]
    exact ⟨x, x1, by rw [gc 15 0 _ (by decide) (by decide)]; exact x2, fun u hun => by rw [e48]; exact x3 u hun, RelW_cg x4 (fun u _ => rfl) (fun u _ => rR_cg (fun s _ => gr' 40 0 _ (by decide) (by decide) (by decide))), by rw [gr' 40 0 _ (by decide) (by decide) (by decide)]; exact x5⟩
  · rw [g9 12 (by omega)]
    rcases hF with q | ⟨q, q2⟩
    · exact Or.inl q
    · exact Or.inr ⟨q, FLV_c q2 (fun u hu => by rw [gu, if_neg (by omega)]) (fun s => gc 11 0 s (by decide) (by decide)) (fun s => gc 12 0 s (by decide) (by decide)) (fun s => gc 13 0 s (by decide) (by decide)) (fun i s => gc 17 i s (by decide) (by decide)) (fun s => gc 18 0 s (by decide) (by decide)) (fun i s => gc 20 i s (by decide) (by decide)) (fun s => gc 21 0 s (by decide) (by decide)) (fun s => gc 22 0 s (by decide) (by decide))⟩
/-- the world is another: nothing is undone -/
theorem INV_new {t w d n n' a b h nx : Nat} {c r c2 r2 : zM} (hT : TPI t c r) (hW : WLI w d n c r) (hS : SHI a b c r) (hH : HII w n h nx c r) {t' w' d' : Nat} (hT' : TPI t' c2 r2) (hw' : w' < 2) (hd' : d' < 2) (hne : w' ≠ d') (e1 : gr c2 9 2 = some w') (e2 : gr c2 9 3 = some d') (e3 : gi c2 8 w' 1 = nI n') (e4 : gi r2 38 0 1356 = nI n') (hR : RelW n' (fun u => uC c2 (12 * w' + u)) (fun u => rR r2 38 0 u)) (hu : ∀ q, 24 ≤ q → q < 48 → uC c2 q = uC c q) (h8 : ∀ i, 2 ≤ i → gi c2 8 i 1 = gi c 8 i 1) (h5 : gi c2 9 0 5 = gi c 9 0 5) (h1 : gi c2 1 0 2 = gi c 1 0 2) (h3 : gi c2 1 0 3 = nI 0) (h12 : gi c2 9 0 12 = 1) (r41 : ∀ s, gi r2 41 0 s = gi r 41 0 s) (r42 : ∀ s, gi r2 42 0 s = gi r 42 0 s) (r5 : gi r2 10 0 5 = nI 0) : INV c2 r2 := by
  refine ⟨t', w', d', n', a, b, 0, nx, hT', ⟨e1, e2, hw', hd', hne, e3, e4, hR⟩, ?_, ?_, Or.inl h12⟩
  · obtain ⟨s1, s2, s3, s4, s5, s6, s7⟩ := hS
    refine ⟨s1, s2, by rw [h5]; exact s3, by rw [r42]; exact s4, by rw [r42]; exact s5, fun q => ?_, fun q => ?_⟩
    · obtain ⟨m, y1, y2, y3⟩ := s6 q
      have := y3.1
      exact ⟨m, by rw [h8 _ (by omega)]; exact y1, by rw [r41]; exact y2, RelW_cg y3 (fun u hun => hu _ (by omega) (by omega)) (fun u _ => rR_cg (fun s _ => r41 _))⟩
    · obtain ⟨m, y1, y2, y3⟩ := s7 q
      have := y3.1
      exact ⟨m, by rw [h8 _ (by omega)]; exact y1, by rw [r41]; exact y2, RelW_cg y3 (fun u hun => hu _ (by omega) (by omega)) (fun u _ => rR_cg (fun s _ => r41 _))⟩
  · exact ⟨by omega, hH.2.1, h3, r5, by rw [h1]; exact hH.2.2.2.2.1, fun _ u => uC c2 (12 * w' + u), fun u _ => rfl, fun j hj => by omega⟩
theorem call_back (v1 : Int32) : CALL (fX9_back v1) (fX10_back v1) := fun c r hI => by
  obtain ⟨t, w, d, n, a, b, h, nx, hT, hW, hS, hH, hF⟩ := id hI
  obtain ⟨w1, w2, w3, w4, w5, w6, w7, w8⟩ := id hW
  obtain ⟨s1, s2, s3, s4, s5, s6, s7⟩ := id hS
  unfold fX9_back fX10_back
  rw [lt2, qIn2, Option.bind_some]
  by_cases t1 : zin v1 2 = true
  rotate_left
  · rw [if_neg t1, if_neg t1]; exact ok2_some ⟨rfl, hI⟩
  rw [if_pos t1, if_pos t1, if_neg n10, zob_t _ t1]
  obtain ⟨k, hk, rfl, hk3⟩ := zin_e t1
  rw [zn_n hk3, l1357, pk_mul, s3]
  have hb : fX9_hasBit (nI (a + 2 * b)) (nI k) c = some (nI (if k = 0 then a else b)) := by
    unfold fX9_hasBit
    match k, hk, a, s1, b, s2 with
    | 0, _, 0, _, 0, _ => decide
    | 0, _, 0, _, 1, _ => decide
    | 0, _, 1, _, 0, _ => decide
    | 0, _, 1, _, 1, _ => decide
    | 1, _, 0, _, 0, _ => decide
    | 1, _, 0, _, 1, _ => decide
    | 1, _, 1, _, 0, _ => decide
    | 1, _, 1, _, 1, _ => decide
  have e42 : gi r 42 0 k = nI (if k = 0 then a else b) := by
    match k, hk with
    | 0, _ => exact s4
    | 1, _ => exact s5
  rw [hb, Option.bind_some, e42]
  by_cases hz : (if k = 0 then a else b) = 0
  · rw [hz, if_pos (show nI 0 = 0 from rfl), if_pos (show nI 0 = 0 from rfl)]
    exact ok2_some ⟨rfl, hI⟩
  have hz1 : (if k = 0 then a else b) = 1 := by
    by_cases q : k = 0
    · rw [if_pos q] at hz ⊢; omega
    · rw [if_neg q] at hz ⊢; omega
  rw [hz1, if_neg (show ¬ nI 1 = 0 by decide), if_neg (show ¬ nI 1 = 0 by decide), w1, Option.bind_some, zob_t _ (zin_n hk (by omega))]
  have hSH : SH1 k c r := by
    match k, hk, hz1 with
    | 0, _, e => exact s6 e
    | 1, _, e => exact s7 e
  obtain ⟨n', y1, y2, y3⟩ := hSH
  have hn' := y3.1
  refine ok2_l (pX8_copyFrom (v0 := w) (v1 := 2 + k) (by omega) y1 hn' (fun u hu => ?_)) (fun c1 hc1 => ?_)
  · have h1 := (y3.2 u hu).1.1
    have e : gi c 7 (12 * (2 + k) + u) 0 = rR r 41 (1357 * k) u 0 := h1.2.1
    rw [e]
    exact zbo_of h1.1
  refine ok2_r (qMoves_41_38 (by omega) r) (fun r1 hr1 => ?_)
  obtain ⟨c1a, c1b, cf⟩ := hc1
  obtain ⟨r1a, rf⟩ := hr1
  unfold fX9_startAnew fX1_forgetAll
  rw [Option.bind_some, Option.bind_some, show gr (wi (wi c1 1 0 3 0) 9 0 12 1) 9 2 = some w from (FSr cf 2 (by decide)).trans w1, Option.bind_some, n1356]
  have g8 : ∀ i s, gi (wi (wi c1 1 0 3 0) 9 0 12 1) 8 i s = if i = w ∧ s = 1 then nI n' else gi c 8 i s := fun i s => by
    rw [gi_wi, if_neg (by omega), gi_wi, if_neg (by omega), c1b]
  have e38 : ∀ s, s < 1357 → gi (wi r1 10 0 5 0) 38 0 s = gi r 41 0 (1357 * k + s) := fun s hs => by
    rw [gi_wi, if_neg (by omega), r1a, if_pos ⟨rfl, rfl, by omega, by omega⟩, Nat.sub_zero]
  have gu : ∀ q, uC (wi (wi c1 1 0 3 0) 9 0 12 1) q = if 12 * w ≤ q ∧ q < 12 * w + n' then uC c (12 * (2 + k) + (q - 12 * w)) else uC c q := fun q => by rw [uC_w0 (by decide), uC_w0 (by decide)]; exact c1a q
  have g9 : ∀ s, s ≠ 12 → gi (wi (wi c1 1 0 3 0) 9 0 12 1) 9 0 s = gi c 9 0 s := fun s hs => by
    rw [gi_wi, if_neg (by omega), gi_wi, if_neg (by omega)]
    refine FSf cf 0 (by decide) (fun q => ?_)
    simp at q
    omega
  have gr' : ∀ k' i s, zisf k' = false → k' ≠ 38 → gi (wi r1 10 0 5 0) k' i s = gi r k' i s := fun k' i s hf h1 => by
    rw [gi_wi, if_neg (fun q => by rw [q.1] at hf; revert hf; decide), FSa rf i s hf (by simp [h1])]
  refine ok2_some ⟨?_, INV_new (n' := n') hT hW hS hH (t' := t) (w' := w) (d' := d) ⟨hT.1, ?_, ?_, fun i hi => ?_⟩ w3 w4 w5 ?_ ?_ ?_ ?_ ?_ (fun q h1 h2 => ?_) (fun i hi => ?_) (g9 5 (by omega)) ?_ ?_ ?_ (fun s => gr' 41 0 s (by decide) (by decide)) (fun s => gr' 42 0 s (by decide) (by decide)) ?_⟩
  · show gi (wi (wi c1 1 0 3 0) 9 0 12 1) 8 w 1 = gi (wi r1 10 0 5 0) 38 0 1356
    rw [g8, if_pos ⟨rfl, rfl⟩, e38 _ (by omega), y2]
  · rw [g9 1 (by omega)]; exact hT.2.1
  · rw [gi_wi, if_neg (by omega), FSf rf 0 (by decide) (by decide)]; exact hT.2.2.1
  · rw [gi_wi, if_neg (by omega), gi_wi, if_neg (by omega), FSa cf 0 i (by decide) (by decide), gr' 43 0 i (by decide) (by decide)]; exact hT.2.2.2 i hi
  · exact (FSr cf 2 (by decide)).trans w1
  · exact (FSr cf 3 (by decide)).trans w2
  · rw [g8, if_pos ⟨rfl, rfl⟩]
  · rw [e38 _ (by omega)]; exact y2
  · refine RelW_cg y3 (fun u hu => ?_) (fun u hu => rR_cg (fun s hs => ?_))
    · show uC (wi (wi c1 1 0 3 0) 9 0 12 1) (12 * w + u) = uC c (12 * (2 + k) + u)
      rw [gu, if_pos ⟨by omega, by omega⟩, show 12 * w + u - 12 * w = u by omega]
    · rw [Nat.zero_add, e38 _ (by omega)]
  · rw [gu, if_neg (by omega)]
  · rw [g8, if_neg (by omega)]
  · rw [gi_wi, if_neg (by omega), gi_wi, if_neg (by omega), FSf cf 0 (by decide) (by decide)]
  · rw [gi_wi, if_neg (by omega), gi_wi, if_pos ⟨rfl, rfl, rfl⟩]; rfl
  · rw [gi_wi, if_pos ⟨rfl, rfl, rfl⟩]
  · rw [gi_wi, if_pos ⟨rfl, rfl, rfl⟩]; rfl
