/-! an act begins: the unit is recorded, the world is kept -/
def BC (w x n nx h : Nat) (c c1 : zM) : Prop := ((∀ q, uC c1 q = if q = 48 + nx then uC c (12 * w + x) else uC c q) ∧ (∀ s, gi c1 15 0 s = if s = nx then nI x else gi c 15 0 s) ∧ gi c1 1 0 2 = nI ((nx + 1) % 10) ∧ gi c1 1 0 3 = nI (min (h + 1) 10) ∧ gi c1 9 0 12 = 1) ∧ FS [5, 7, 15, 30, 31, 32, 33, 34, 1102, 1103, 1912] c c1
def BR (h : Nat) (r r1 : zM) : Prop := (gi r1 10 0 5 = nI (min (h + 1) 10) ∧ ∀ j s, s < 1357 → j < min (h + 1) 10 → gi r1 40 0 (1357 * j + s) = if j + 1 = min (h + 1) 10 then gi r 38 0 s else gi r 40 0 (1357 * (if h = 10 then j + 1 else j) + s)) ∧ FS [40, 2005] r r1
theorem zbo_of {x : Int32} (h : zin x 2 = true) : zbo x = true := by
  obtain ⟨a, ha, rfl, -⟩ := zin_e h
  match a, ha with
  | 0, _ => rfl
  | 1, _ => rfl
theorem WLI.zbo {w d n u : Nat} {c r : zM} (h : WLI w d n c r) (hu : u < n) : zbo (gi c 7 (12 * w + u) 0) = true := by
  obtain ⟨-, -, -, -, -, -, -, h8⟩ := h
  have h1 := (h8.2 u hu).1.1
  have e : gi c 7 (12 * w + u) 0 = rR r 38 0 u 0 := h1.2.1
  rw [e]
  exact zbo_of h1.1
theorem pX9_beginAct {t w d n h nx x : Nat} {c r : zM} (hW : WLI w d n c r) (hH : HII w n h nx c r) (hx : x < n) : ok (fX9_beginAct (nI x) c) (BC w x n nx h c) := by
  have hz := hW.zbo hx
  obtain ⟨w1, w2, w3, w4, w5, w6, w7, w8⟩ := hW
  obtain ⟨p1, p2, p3, p4, p5, -⟩ := hH
  have h12 := w8.1
  unfold BC
  refine ok_fr ?_ (frX9_beginAct (ks := [5, 7, 15, 30, 31, 32, 33, 34, 1102, 1103, 1912]) (fun k h => h) (FS_refl c))
  unfold fX9_beginAct
  rw [w1, Option.bind_some]
  refine ok_zob (zin_n (by omega) (by omega)) ?_
  rw [zn_n (by omega)]
  refine ok_bind (pX1_record p5 p2 p3 p1 (by omega) hz) (fun x2 hx2 => ok_some ⟨fun q => ?_, fun s => ?_, ?_, ?_, ?_⟩)
  · rw [uC_w0 (by decide)]; exact hx2.1.1 q
  · rw [gi_wi, if_neg (by omega)]; exact hx2.1.2.1 s
  · rw [gi_wi, if_neg (by omega)]; exact hx2.1.2.2.1
  · rw [gi_wi, if_neg (by omega)]; exact hx2.1.2.2.2
  · rw [gi_wi, if_pos ⟨rfl, rfl, rfl⟩]
theorem INV_act {t w d n a b h nx x : Nat} {c r c1 r1 c2 r2 : zM} (hT : TPI t c r) (hW : WLI w d n c r) (hS : SHI a b c r) (hH : HII w n h nx c r) (hx : x < n) (hC : BC w x n nx h c c1) (hR : BR h r r1)
    (hc2 : ∀ q, q ≠ 12 * w + x → uC c2 q = uC c1 q) (f2 : FS [5, 7, 30, 31, 32, 33, 34] c1 c2) (hr2 : ∀ u, u < 12 → u ≠ x → rR r2 38 0 u = rR r1 38 0 u) (g2 : FS [38] r1 r2) (hN : gi r2 38 0 1356 = gi r1 38 0 1356) (hU : RU x (uC c2 (12 * w + x)) (rR r2 38 0 x)) (h0 : rR r2 38 0 x 0 = rR r 38 0 x 0) (hp : ∀ k, k < zn (rR r2 38 0 x 2) → rR r 38 0 (zn (rR r2 38 0 x (3 + k))) 0 = 0 ∧ rR r 38 0 x 0 = 0) (hu : ∀ k, k < zn (rR r2 38 0 x 7) → rR r 38 0 (zn (rR r2 38 0 x (8 + 14 * k))) 0 = 1) : INV c2 r2 := by
  obtain ⟨⟨b1, b2, b3, b4, b5⟩, bf⟩ := hC
  obtain ⟨⟨e1, e2⟩, ef⟩ := hR
  obtain ⟨w1, w2, w3, w4, w5, w6, w7, w8⟩ := hW
  obtain ⟨p1, p2, p3, p4, p5, W, q1, q2⟩ := hH
  have h12 := w8.1
  have hr1 : ∀ u, rR r1 38 0 u = rR r 38 0 u := fun u => rR_cg (fun s _ => FSa ef 0 _ (by decide) (by decide))
  have hcU : ∀ q, q ≠ 12 * w + x → q ≠ 48 + nx → uC c2 q = uC c q := fun q h1 h2 => by rw [hc2 q h1, b1, if_neg h2]
  have hr2' : ∀ u, u < 12 → u ≠ x → rR r2 38 0 u = rR r 38 0 u := fun u h1 h2 => by rw [hr2 u h1 h2, hr1]
  have gc : ∀ k i s, zisf k = false → k ∉ [5, 7, 15, 30, 31, 32, 33, 34, 1102, 1103, 1912] → gi c2 k i s = gi c k i s := fun k i s hf hk => by
    rw [FSa f2 i s hf (fun q => hk (zss (a := [5, 7, 30, 31, 32, 33, 34]) (by decide) k q)), FSa bf i s hf hk]
  have gr' : ∀ k i s, zisf k = false → k ∉ [40, 38, 2005] → gi r2 k i s = gi r k i s := fun k i s hf hk => by
    rw [FSa g2 i s hf (fun q => hk (zss (a := [38]) (by decide) k q)), FSa ef i s hf (fun q => hk (zss (a := [40, 2005]) (by decide) k q))]
  refine ⟨t, w, d, n, a, b, min (h + 1) 10, (nx + 1) % 10, ?_, ?_, ?_, ?_, Or.inl ?_⟩
  · refine ⟨hT.1, ?_, ?_, fun i hi => ?_⟩
    · rw [FSf f2 0 (by decide) (by decide), FSf bf 0 (by decide) (by decide)]; exact hT.2.1
    · rw [FSf g2 0 (by decide) (by decide), FSf ef 0 (by decide) (by decide)]; exact hT.2.2.1
    · rw [gc 36 0 i (by decide) (by decide), gr' 43 0 i (by decide) (by decide)]; exact hT.2.2.2 i hi
  · refine ⟨by rw [FSr f2 2 (by decide), FSr bf 2 (by decide)]; exact w1, by rw [FSr f2 3 (by decide), FSr bf 3 (by decide)]; exact w2, w3, w4, w5, by rw [gc 8 w 1 (by decide) (by decide)]; exact w6, by rw [hN, FSa ef 0 1356 (by decide) (by decide)]; exact w7, ?_⟩
    exact RelW_act w8 hx (fun u hun hne => hcU _ (by omega) (by omega)) (fun u hun hne => hr2' u (by omega) hne) hU h0 hp hu
  · obtain ⟨s1, s2, s3, s4, s5, s6, s7⟩ := hS
    refine ⟨s1, s2, ?_, by rw [gr' 42 0 0 (by decide) (by decide)]; exact s4, by rw [gr' 42 0 1 (by decide) (by decide)]; exact s5, fun q => ?_, fun q => ?_⟩
    · rw [FSf f2 0 (by decide) (by decide), FSf bf 0 (by decide) (by decide)]; exact s3
    · obtain ⟨n', y1, y2, y3⟩ := s6 q
      have := y3.1
      exact ⟨n', by rw [gc 8 _ 1 (by decide) (by decide)]; exact y1, by rw [gr' 41 0 _ (by decide) (by decide)]; exact y2, RelW_cg y3 (fun u hun => hcU _ (by omega) (by omega)) (fun u _ => rR_cg (fun s _ => gr' 41 0 _ (by decide) (by decide)))⟩
    · obtain ⟨n', y1, y2, y3⟩ := s7 q
      have := y3.1
      exact ⟨n', by rw [gc 8 _ 1 (by decide) (by decide)]; exact y1, by rw [gr' 41 0 _ (by decide) (by decide)]; exact y2, RelW_cg y3 (fun u hun => hcU _ (by omega) (by omega)) (fun u _ => rR_cg (fun s _ => gr' 41 0 _ (by decide) (by decide)))⟩
  · have g40 : ∀ s, gi r2 40 0 s = gi r1 40 0 s := fun s => FSa g2 0 s (by decide) (by decide)
    have g15 : ∀ s, gi c2 15 0 s = gi c1 15 0 s := fun s => FSa f2 0 s (by decide) (by decide)
    refine ⟨by omega, by omega, by rw [FSf f2 0 (by decide) (by decide)]; exact b4, by rw [FSf g2 0 (by decide) (by decide)]; exact e1, by rw [FSf f2 0 (by decide) (by decide)]; exact b3, fun j => match j with | 0 => fun u => uC c2 (12 * w + u) | j + 1 => W j, fun u _ => rfl, fun j hj => ?_⟩
    cases j with
    | zero =>
      have ei : ((nx + 1) % 10 + 9 - 0) % 10 = nx := by omega
      rw [ei]
      refine ⟨x, hx, by rw [g15, b2, if_pos rfl], fun u hun => ?_, ?_, ?_⟩
      · show W 0 u = if u = x then uC c2 (48 + nx) else uC c2 (12 * w + u)
        rw [q1 u hun]
        by_cases e : u = x
        · rw [if_pos e, hc2 _ (by omega), b1, if_pos rfl, e]
        · rw [if_neg e, hcU _ (by omega) (by omega)]
      · refine RelW_cg w8 (fun u hun => q1 u hun) (fun u hun => rR_cg (fun s hs => ?_))
        rw [g40, e2 _ _ (by omega) (by omega), if_pos (by omega), Nat.zero_add]
      · rw [g40, e2 _ _ (by omega) (by omega), if_pos (by omega)]
        exact w7
    | succ i =>
      have hi : i < h := by omega
      obtain ⟨x', x1, x2, x3, x4, x5⟩ := q2 i hi
      have ei : ((nx + 1) % 10 + 9 - (i + 1)) % 10 = (nx + 9 - i) % 10 := by omega
      have en : (nx + 9 - i) % 10 ≠ nx := by omega
      have ej : (if h = 10 then min (h + 1) 10 - 1 - (i + 1) + 1 else min (h + 1) 10 - 1 - (i + 1)) = h - 1 - i := by split <;> omega
      rw [ei]
      refine ⟨x', x1, by rw [g15, b2, if_neg en]; exact x2, fun u hun => ?_, ?_, ?_⟩
      · show W (i + 1) u = if u = x' then uC c2 (48 + (nx + 9 - i) % 10) else W i u
        rw [x3 u hun, hcU _ (by omega) (by omega)]
      · refine RelW_cg x4 (fun u hun => rfl) (fun u hun => rR_cg (fun s hs => ?_))
        rw [g40, e2 _ _ (by omega) (by omega), if_neg (by omega), ej]
      · rw [g40, e2 _ _ (by omega) (by omega), if_neg (by omega), ej]
        exact x5
  · rw [FSf f2 0 (by decide) (by decide)]; exact b5
