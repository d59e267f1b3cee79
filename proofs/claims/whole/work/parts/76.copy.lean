/-! copies: units, worlds, the reference's rows -/
theorem zn0 : zn 0 = 0 := zn_n (a := 0) (by omega)
theorem zn4 : zn 4 = 4 := zn_n (a := 4) (by omega)
theorem zn26 : zn 26 = 26 := zn_n (a := 26) (by omega)
theorem zn104 : zn 104 = 104 := zn_n (a := 104) (by omega)
theorem FSa {ks : List Nat} {m0 m : zM} (h : FS ks m0 m) {k : Nat} (i s : Nat) (hf : zisf k = false) (hk : k ∉ ks) : gi m k i s = gi m0 k i s := h.1 k i s (by unfold zcd; rw [if_neg (by rw [hf]; decide)]; exact hk)
theorem FSf {ks : List Nat} {m0 m : zM} (h : FS ks m0 m) {k s : Nat} (i : Nat) (hf : zisf k = true) (hk : 1000 + 100 * k + s ∉ ks) : gi m k i s = gi m0 k i s := h.1 k i s (by unfold zcd; rw [if_pos hf]; exact hk)
theorem FSr {ks : List Nat} {m0 m : zM} (h : FS ks m0 m) {k : Nat} (s : Nat) (hk : 100 + k ∉ ks) : gr m k s = gr m0 k s := h.2.2 k s hk
theorem pX7_copyFrom {v0 v1 : Nat} {mm : zM} (hne : v0 ≠ v1) (hk : zbo (gi mm 7 v1 0) = true) : ok (fX7_copyFrom v0 v1 mm) (fun m' => (∀ n, uC m' n = if n = v0 then uC mm v1 else uC mm n) ∧ FS [5, 7, 30, 31, 32, 33, 34] mm m') := by
  refine ok_fr (P := fun m' => ∀ n, uC m' n = if n = v0 then uC mm v1 else uC mm n) ?_ (frX7_copyFrom (ks := [5, 7, 30, 31, 32, 33, 34]) (fun k h => h) (FS_refl mm))
  unfold fX7_copyFrom fX5_copyFrom
  refine ok_zob hk ?_
  rw [zob_t _ (by decide), Option.bind_some, zob_t _ (by decide), Option.bind_some, zob_t _ (by decide), zob_t _ (by decide), zob_t _ (by decide), zob_t _ (by decide), zn0, zn4, zn26, zn104]
  refine ok_some (fun n => ?_)
  have hne' : v1 ≠ v0 := Ne.symm hne
  have a1 : ¬ 2 * v1 = 2 * v0 := by omega
  have a2 : ¬ 2 * v1 + 1 = 2 * v0 := by omega
  have a3 : ¬ 2 * v1 = 2 * v0 + 1 := by omega
  have a4 : ¬ 2 * v0 = 2 * v0 + 1 := by omega
  have a5 : ¬ 2 * v0 + 1 = 2 * v0 := by omega
  by_cases h : n = v0
  · subst h
    rw [if_pos rfl]
    refine uC_cg (fun s hs => ?_) ?_ (fun s hs => ?_) ?_ (fun s hs => ?_) (fun s hs => ?_) (fun s hs => ?_) (fun s hs => ?_) (fun s hs => ?_)
    · match s, hs with
      | 0, _ => simp [gi_wi, gi_zcp, hne']
      | 1, _ => simp [gi_wi, gi_zcp, hne']
      | 2, _ => simp [gi_wi, gi_zcp, hne']
    · simp [gi_wi, gi_zcp, a1, a4]
    · simp [gi_wi, gi_zcp, hs, a4]
    · simp [gi_wi, gi_zcp, a2, a3, hne']
    · simp [gi_wi, gi_zcp, hs, a2, a3]
    · simp [gi_wi, gi_zcp, hs]
    · simp [gi_wi, gi_zcp, hs]
    · simp [gi_wi, gi_zcp, hs]
    · simp [gi_wi, gi_zcp, hs]
  · rw [if_neg h]
    have b1 : ¬ 2 * n = 2 * v0 := by omega
    have b2 : ¬ 2 * n + 1 = 2 * v0 := by omega
    have b3 : ¬ 2 * n = 2 * v0 + 1 := by omega
    have b4 : ¬ 2 * n + 1 = 2 * v0 + 1 := by omega
    refine uC_cg (fun s hs => ?_) ?_ (fun s hs => ?_) ?_ (fun s hs => ?_) (fun s hs => ?_) (fun s hs => ?_) (fun s hs => ?_) (fun s hs => ?_) <;> simp [gi_wi, gi_zcp, h, b1, b2, b3]
/-- a world is taken over -/
theorem pX8_copyFrom {v0 v1 n : Nat} {mm : zM} (hne : v0 ≠ v1) (hn : gi mm 8 v1 1 = nI n) (h12 : n ≤ 12) (hk : ∀ u, u < n → zbo (gi mm 7 (12 * v1 + u) 0) = true) : ok (fX8_copyFrom v0 v1 mm) (fun m' => (∀ q, uC m' q = if 12 * v0 ≤ q ∧ q < 12 * v0 + n then uC mm (12 * v1 + (q - 12 * v0)) else uC mm q) ∧ (∀ i s, gi m' 8 i s = if i = v0 ∧ s = 1 then nI n else gi mm 8 i s) ∧ FS [5, 7, 8, 30, 31, 32, 33, 34] mm m') := by
  have hfr := ok_fr (P := fun m' => (∀ q, uC m' q = if 12 * v0 ≤ q ∧ q < 12 * v0 + n then uC mm (12 * v1 + (q - 12 * v0)) else uC mm q) ∧ (∀ i s, gi m' 8 i s = if i = v0 ∧ s = 1 then nI n else gi mm 8 i s)) ?_ (frX8_copyFrom (ks := [5, 7, 8, 30, 31, 32, 33, 34]) (v0 := v0) (v1 := v1) (fun k h => h) (FS_refl mm))
  · exact ok_mono hfr (fun m' h => ⟨h.1.1, h.1.2, h.2⟩)
  unfold fX8_copyFrom
  rw [hn]
  refine ok_bind (P := fun o => ∃ m', o = Sum.inl m' ∧ (∀ q, uC m' q = if 12 * v0 ≤ q ∧ q < 12 * v0 + n then uC mm (12 * v1 + (q - 12 * v0)) else uC mm q) ∧ (∀ i s, gi m' 8 i s = if i = v0 ∧ s = 1 then nI n else gi mm 8 i s)) ?_ (fun o ho => ?_)
  · refine ok_for (fun i s => s.1 = nI i ∧ (∀ q, uC s.2 q = if 12 * v0 ≤ q ∧ q < 12 * v0 + i then uC mm (12 * v1 + (q - 12 * v0)) else uC mm q) ∧ (∀ i s', gi s.2 8 i s' = if i = v0 ∧ s' = 1 then nI n else gi mm 8 i s')) (a := 0) (b := n) (Nat.zero_le n) (by unfold zF; omega) ⟨rfl, fun q => ?_, fun i s => ?_⟩ (fun i s _ hi hI => ?_) (fun s hI => ?_)
    · rw [uC_w0 (by decide), if_neg (by omega)]
    · rw [gi_wi]
      simp
    · obtain ⟨s1, m⟩ := s
      obtain ⟨h1, h2, h3⟩ := hI
      dsimp only at h1 h2 h3
      subst h1
      unfold fX8_copyFrom_L10
      dsimp only
      have h8 : gi m 8 v0 1 = nI n := by rw [h3]; simp
      rw [h8]
      refine ok_f (fun q => by have := (nIle (by omega) (by omega)).mp q; omega) ?_
      refine ok_zob (zin_n (by omega) (by omega)) (ok_zob (zin_n (by omega) (by omega)) ?_)
      rw [zn_n (by omega)]
      have hu : uC m (12 * v1 + i) = uC mm (12 * v1 + i) := by rw [h2, if_neg (by omega)]
      refine ok_bind (pX7_copyFrom (by omega) ?_) (fun m' hm' => ok_some (Or.inl ⟨_, rfl, by rw [nI_1], fun q => ?_, fun a b => ?_⟩))
      · have e := congrFun hu 0
        rw [uC_7 (by omega), uC_7 (by omega)] at e
        rw [e]
        exact hk i hi
      · rw [hm'.1 q]
        by_cases e : q = 12 * v0 + i
        · subst e
          rw [if_pos rfl, if_pos ⟨by omega, by omega⟩, hu, show 12 * v0 + i - 12 * v0 = i by omega]
        · rw [if_neg e, h2]
          by_cases e2 : 12 * v0 ≤ q ∧ q < 12 * v0 + i
          · rw [if_pos e2, if_pos ⟨e2.1, by omega⟩]
          · rw [if_neg e2, if_neg (by omega)]
      · rw [FSa hm'.2 a b (by decide) (by decide), h3]
    · obtain ⟨s1, m⟩ := s
      obtain ⟨h1, h2, h3⟩ := hI
      dsimp only at h1 h2 h3
      subst h1
      unfold fX8_copyFrom_L10
      dsimp only
      have h8 : gi m 8 v0 1 = nI n := by rw [h3]; simp
      rw [h8]
      exact ok_t (Int32.le_refl _) (ok_some ⟨_, rfl, m, rfl, h2, h3⟩)
  · obtain ⟨m', rfl, h⟩ := ho
    exact ok_some h
/-- rows are moved -/
theorem mv_loop {L : Int32 × zM → Option ((Int32 × zM) ⊕ (zM ⊕ Empty))} {ks kd a b : Nat} (hne : ks ≠ kd) (hL : ∀ i m, i < 1357 → L (nI i, m) = some (.inl (nI (i + 1), wi m kd 0 (b + i) (gi m ks 0 (a + i))))) (hE : ∀ m, L (nI 1357, m) = some (.inr (.inl m))) (mm : zM) : ok ((zloop L zF (0, mm)).bind (fun o => zcase o (fun y => some y) (fun r => r.elim))) (fun m' => ∀ k i s, gi m' k i s = if k = kd ∧ i = 0 ∧ b ≤ s ∧ s < b + 1357 then gi mm ks 0 (a + (s - b)) else gi mm k i s) := by
  refine ok_bind (P := fun o => ∃ m', o = Sum.inl m' ∧ ∀ k i s, gi m' k i s = if k = kd ∧ i = 0 ∧ b ≤ s ∧ s < b + 1357 then gi mm ks 0 (a + (s - b)) else gi mm k i s) ?_ (fun o ho => ?_)
  · refine ok_for (fun i s => s.1 = nI i ∧ ∀ k j s', gi s.2 k j s' = if k = kd ∧ j = 0 ∧ b ≤ s' ∧ s' < b + i then gi mm ks 0 (a + (s' - b)) else gi mm k j s') (a := 0) (b := 1357) (by omega) (by unfold zF; omega) ⟨rfl, fun k j s => ?_⟩ (fun i s _ hi hI => ?_) (fun s hI => ?_)
    · rw [if_neg (by omega)]
    · obtain ⟨s1, m⟩ := s
      obtain ⟨h1, h2⟩ := hI
      dsimp only at h1 h2
      subst h1
      rw [hL i m hi]
      refine ok_some (Or.inl ⟨_, rfl, rfl, fun k j s' => ?_⟩)
      dsimp only
      rw [gi_wi]
      by_cases e : k = kd ∧ j = 0 ∧ s' = b + i
      · obtain ⟨e1, e2, e3⟩ := e
        subst e1; subst e2; subst e3
        rw [if_pos ⟨rfl, rfl, rfl⟩, if_pos ⟨rfl, rfl, by omega, by omega⟩, h2, if_neg (fun q => hne q.1), Nat.add_sub_cancel_left]
      · rw [if_neg e, h2]
        by_cases e2 : k = kd ∧ j = 0 ∧ b ≤ s' ∧ s' < b + i
        · rw [if_pos e2, if_pos ⟨e2.1, e2.2.1, e2.2.2.1, by omega⟩]
        · rw [if_neg e2, if_neg (fun q => e ⟨q.1, q.2.1, by omega⟩)]
    · obtain ⟨s1, m⟩ := s
      obtain ⟨h1, h2⟩ := hI
      dsimp only at h1 h2
      subst h1
      rw [hE m]
      exact ok_some ⟨_, rfl, m, rfl, h2⟩
  · obtain ⟨m', rfl, h⟩ := ho
    exact ok_some h
theorem qMoves_39_38 (mm : zM) : ok (fX10_moves_39_38 0 0 mm) (fun m' => (∀ k i s, gi m' k i s = if k = 38 ∧ i = 0 ∧ 0 ≤ s ∧ s < 0 + 1357 then gi mm 39 0 (0 + (s - 0)) else gi mm k i s) ∧ FS [38] mm m') := by
  refine ok_fr ?_ (frX10_moves_39_38 (ks := [38]) (fun k h => h) (FS_refl mm))
  unfold fX10_moves_39_38
  refine mv_loop (by decide) (fun i m hi => ?_) (fun m => ?_) mm
  · unfold fX10_moves_39_38_L3
    dsimp only
    rw [l1357, if_neg (fun q => by have := (nIle (by omega) (by omega)).mp q; omega), l0, nI_add, zo _ (by omega) (by omega), zo _ (by omega) (by omega), zn_n (by omega), nI_1]
  · unfold fX10_moves_39_38_L3
    dsimp only
    rw [l1357, if_pos (Int32.le_refl _)]
theorem qMoves_38_40 {b : Nat} (hb : b ≤ 12213) (mm : zM) : ok (fX10_moves_38_40 0 (nI b) mm) (fun m' => (∀ k i s, gi m' k i s = if k = 40 ∧ i = 0 ∧ b ≤ s ∧ s < b + 1357 then gi mm 38 0 (0 + (s - b)) else gi mm k i s) ∧ FS [40] mm m') := by
  refine ok_fr ?_ (frX10_moves_38_40 (ks := [40]) (fun k h => h) (FS_refl mm))
  unfold fX10_moves_38_40
  refine mv_loop (by decide) (fun i m hi => ?_) (fun m => ?_) mm
  · unfold fX10_moves_38_40_L3
    dsimp only
    rw [l1357, if_neg (fun q => by have := (nIle (by omega) (by omega)).mp q; omega), l0, nI_add, nI_add, zo _ (by omega) (by omega), zo _ (by omega) (by omega), zn_n (by omega), zn_n (by omega), nI_1]
  · unfold fX10_moves_38_40_L3
    dsimp only
    rw [l1357, if_pos (Int32.le_refl _)]
theorem qMoves_40_38 {a : Nat} (ha : a ≤ 12213) (mm : zM) : ok (fX10_moves_40_38 (nI a) 0 mm) (fun m' => (∀ k i s, gi m' k i s = if k = 38 ∧ i = 0 ∧ 0 ≤ s ∧ s < 0 + 1357 then gi mm 40 0 (a + (s - 0)) else gi mm k i s) ∧ FS [38] mm m') := by
  refine ok_fr ?_ (frX10_moves_40_38 (ks := [38]) (fun k h => h) (FS_refl mm))
  unfold fX10_moves_40_38
  refine mv_loop (by decide) (fun i m hi => ?_) (fun m => ?_) mm
  · unfold fX10_moves_40_38_L3
    dsimp only
    rw [l1357, if_neg (fun q => by have := (nIle (by omega) (by omega)).mp q; omega), l0, nI_add, nI_add, zo _ (by omega) (by omega), zo _ (by omega) (by omega), zn_n (by omega), zn_n (by omega), nI_1]
  · unfold fX10_moves_40_38_L3
    dsimp only
    rw [l1357, if_pos (Int32.le_refl _)]
theorem qMoves_38_41 {b : Nat} (hb : b ≤ 1357) (mm : zM) : ok (fX10_moves_38_41 0 (nI b) mm) (fun m' => (∀ k i s, gi m' k i s = if k = 41 ∧ i = 0 ∧ b ≤ s ∧ s < b + 1357 then gi mm 38 0 (0 + (s - b)) else gi mm k i s) ∧ FS [41] mm m') := by
  refine ok_fr ?_ (frX10_moves_38_41 (ks := [41]) (fun k h => h) (FS_refl mm))
  unfold fX10_moves_38_41
  refine mv_loop (by decide) (fun i m hi => ?_) (fun m => ?_) mm
  · unfold fX10_moves_38_41_L3
    dsimp only
    rw [l1357, if_neg (fun q => by have := (nIle (by omega) (by omega)).mp q; omega), l0, nI_add, nI_add, zo _ (by omega) (by omega), zo _ (by omega) (by omega), zn_n (by omega), zn_n (by omega), nI_1]
  · unfold fX10_moves_38_41_L3
    dsimp only
    rw [l1357, if_pos (Int32.le_refl _)]
theorem qMoves_41_38 {a : Nat} (ha : a ≤ 1357) (mm : zM) : ok (fX10_moves_41_38 (nI a) 0 mm) (fun m' => (∀ k i s, gi m' k i s = if k = 38 ∧ i = 0 ∧ 0 ≤ s ∧ s < 0 + 1357 then gi mm 41 0 (a + (s - 0)) else gi mm k i s) ∧ FS [38] mm m') := by
  refine ok_fr ?_ (frX10_moves_41_38 (ks := [38]) (fun k h => h) (FS_refl mm))
  unfold fX10_moves_41_38
  refine mv_loop (by decide) (fun i m hi => ?_) (fun m => ?_) mm
  · unfold fX10_moves_41_38_L3
    dsimp only
    rw [l1357, if_neg (fun q => by have := (nIle (by omega) (by omega)).mp q; omega), l0, nI_add, nI_add, zo _ (by omega) (by omega), zo _ (by omega) (by omega), zn_n (by omega), zn_n (by omega), nI_1]
  · unfold fX10_moves_41_38_L3
    dsimp only
    rw [l1357, if_pos (Int32.le_refl _)]
