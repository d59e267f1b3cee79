/-! what is undone -/
theorem l10 : (10 : Int32) = nI 10 := rfl
theorem l13570 : (13570 : Int32) = nI 13570 := rfl
theorem pX1_record {v2 nx h : Nat} {v1 : Int32} {mm : zM} (hn : gi mm 1 0 2 = nI nx) (hnx : nx < 10) (hh : gi mm 1 0 3 = nI h) (h10 : h ≤ 10) (h48 : v2 < 48) (hk : zbo (gi mm 7 v2 0) = true) : ok (fX1_record v1 v2 mm) (fun m' => ((∀ n, uC m' n = if n = 48 + nx then uC mm v2 else uC mm n) ∧ (∀ s, gi m' 15 0 s = if s = nx then v1 else gi mm 15 0 s) ∧ gi m' 1 0 2 = nI ((nx + 1) % 10) ∧ gi m' 1 0 3 = nI (min (h + 1) 10)) ∧ FS [5, 7, 15, 30, 31, 32, 33, 34, 1102, 1103] mm m') := by
  refine ok_fr ?_ (frX1_record (ks := [5, 7, 15, 30, 31, 32, 33, 34, 1102, 1103]) (fun k h => h) (FS_refl mm))
  unfold fX1_record
  rw [hn]
  refine ok_zob (zin_n hnx (by omega)) ?_
  rw [zn_n (by omega)]
  refine ok_bind (pX7_copyFrom (by omega) hk) (fun x1 hx1 => ?_)
  have e2 : gi x1 1 0 2 = nI nx := (FSf hx1.2 0 (by decide) (by decide)).trans hn
  have e3 : gi x1 1 0 3 = nI h := (FSf hx1.2 0 (by decide) (by decide)).trans hh
  rw [e2]
  refine ok_zob (zin_n hnx (by omega)) ?_
  rw [zn_n (by omega)]
  have k1 : gi (wi x1 15 0 nx v1) 1 0 2 = nI nx := by rw [gi_wi, if_neg (by omega)]; exact e2
  rw [k1]
  have k2 : ∀ a, gi (wi (wi x1 15 0 nx v1) 1 0 2 a) 1 0 3 = nI h := fun a => by rw [gi_wi, if_neg (by omega), gi_wi, if_neg (by omega)]; exact e3
  rw [k2, nI_1, nI_1, l10, pk_rem (by omega) (by omega) (by omega)]
  refine ok_some ⟨fun n => ?_, fun s => ?_, ?_, ?_⟩
  · rw [uC_w0 (by decide), uC_w0 (by decide), uC_w0 (by decide)]
    exact hx1.1 n
  · rw [gi_wi, if_neg (by omega), gi_wi, if_neg (by omega), gi_wi, FSa hx1.2 0 s (by decide) (by decide)]
    simp
  · rw [gi_wi, if_neg (by omega), gi_wi, if_pos ⟨rfl, rfl, rfl⟩]
  · rw [gi_wi, if_pos ⟨rfl, rfl, rfl⟩]
    by_cases q : h < 10
    · rw [if_neg (fun z => by have := (nIlt (by omega) (by omega)).mp z; omega), show min (h + 1) 10 = h + 1 by omega]
    · rw [if_pos ((nIlt (by omega) (by omega)).mpr (by omega)), show min (h + 1) 10 = 10 by omega]
theorem pX1_restoreLast {v1 nx h x : Nat} {mm : zM} (hn : gi mm 1 0 2 = nI nx) (hnx : nx < 10) (hh : gi mm 1 0 3 = nI h) (h10 : h ≤ 10) (h0 : 0 < h) (hx : gi mm 15 0 ((nx + 9) % 10) = nI x) (h12 : x < 12) (hv : v1 < 4) (hk : zbo (gi mm 7 (48 + (nx + 9) % 10) 0) = true) : ok (fX1_restoreLast v1 mm) (fun m' => ((∀ n, uC m' n = if n = 12 * v1 + x then uC mm (48 + (nx + 9) % 10) else uC mm n) ∧ gi m' 1 0 2 = nI ((nx + 9) % 10) ∧ gi m' 1 0 3 = nI (h - 1)) ∧ FS [5, 7, 30, 31, 32, 33, 34, 1102, 1103] mm m') := by
  refine ok_fr ?_ (frX1_restoreLast (ks := [5, 7, 30, 31, 32, 33, 34, 1102, 1103]) (fun k h => h) (FS_refl mm))
  unfold fX1_restoreLast
  have E : gi mm 1 0 2 + 10 - 1 - (gi mm 1 0 2 + 10 - 1) / 10 * 10 = nI ((nx + 9) % 10) := by
    rw [hn, l10, nI_add, l1, pk_sub (by omega), pk_rem (by omega) (by omega) (by omega), show nx + 10 - 1 = nx + 9 by omega]
  rw [E]
  have k1 : gi (wi mm 1 0 2 (nI ((nx + 9) % 10))) 1 0 3 = nI h := by rw [gi_wi, if_neg (by omega)]; exact hh
  rw [k1, l1, pk_sub (by omega)]
  have k2 : gi (wi (wi mm 1 0 2 (nI ((nx + 9) % 10))) 1 0 3 (nI (h - 1))) 1 0 2 = nI ((nx + 9) % 10) := by rw [gi_wi, if_neg (by omega), gi_wi, if_pos ⟨rfl, rfl, rfl⟩]
  rw [k2, zn_n (by omega)]
  have k3 : gi (wi (wi mm 1 0 2 (nI ((nx + 9) % 10))) 1 0 3 (nI (h - 1))) 15 0 ((nx + 9) % 10) = nI x := by rw [gi_wi, if_neg (by omega), gi_wi, if_neg (by omega)]; exact hx
  rw [k3, zn_n (by omega)]
  refine ok_zob (zin_n (by omega) (by omega)) (ok_zob (zin_n h12 (by omega)) (ok_zob (zin_n (by omega) (by omega)) ?_))
  refine ok_bind (pX7_copyFrom (by omega) ?_) (fun x1 hx1 => ok_some ⟨fun n => ?_, ?_, ?_⟩)
  · rw [gi_wi, if_neg (by omega), gi_wi, if_neg (by omega)]; exact hk
  · rw [hx1.1 n, uC_w0 (by decide), uC_w0 (by decide), uC_w0 (by decide), uC_w0 (by decide)]
  · rw [FSf hx1.2 0 (by decide) (by decide)]; exact k2
  · rw [FSf hx1.2 0 (by decide) (by decide), gi_wi, if_pos ⟨rfl, rfl, rfl⟩]
theorem qKeepsPast_J52 {h : Nat} {mm : zM} (hh : gi mm 10 0 5 = nI h) (h9 : h ≤ 9) : ok (fX10_keepsPast_J52 mm) (fun m' => (gi m' 10 0 5 = nI (h + 1) ∧ ∀ s, gi m' 40 0 s = if 1357 * h ≤ s ∧ s < 1357 * h + 1357 then gi mm 38 0 (s - 1357 * h) else gi mm 40 0 s) ∧ FS [40, 2005] mm m') := by
  refine ok_fr ?_ (frX10_keepsPast_J52 (ks := [40, 2005]) (fun k h => h) (FS_refl mm))
  unfold fX10_keepsPast_J52
  rw [hh, l1357, pk_mul]
  refine ok_bind (qMoves_38_40 (by omega) mm) (fun x1 hx1 => ok_some ⟨?_, fun s => ?_⟩)
  · rw [gi_wi, if_pos ⟨rfl, rfl, rfl⟩, FSf hx1.2 0 (by decide) (by decide), hh, nI_1]
  · rw [gi_wi, if_neg (by omega), hx1.1]
    simp
theorem qKeepsPast {h : Nat} {mm : zM} (hh : gi mm 10 0 5 = nI h) (h10 : h ≤ 10) : ok (fX10_keepsPast mm) (fun m' => (gi m' 10 0 5 = nI (min (h + 1) 10) ∧ ∀ j s, s < 1357 → j < min (h + 1) 10 → gi m' 40 0 (1357 * j + s) = if j + 1 = min (h + 1) 10 then gi mm 38 0 s else gi mm 40 0 (1357 * (if h = 10 then j + 1 else j) + s)) ∧ FS [40, 2005] mm m') := by
  refine ok_fr ?_ (frX10_keepsPast (ks := [40, 2005]) (fun k h => h) (FS_refl mm))
  unfold fX10_keepsPast
  rw [hh, l10]
  by_cases q : h = 10
  · subst q
    refine ok_t rfl ?_
    refine ok_bind (P := fun o => ∃ m', o = Sum.inl m' ∧ ∀ k j s, gi m' k j s = if k = 40 ∧ j = 0 ∧ s + 1357 < 13570 then gi mm 40 0 (s + 1357) else gi mm k j s) ?_ (fun o ho => ?_)
    · refine ok_for (fun i s => s.1 = nI i ∧ ∀ k j s', gi s.2 k j s' = if k = 40 ∧ j = 0 ∧ s' + 1357 < i then gi mm 40 0 (s' + 1357) else gi mm k j s') (a := 1357) (b := 13570) (by omega) (by unfold zF; omega) ⟨rfl, fun k j s => ?_⟩ (fun i s hi1 hi hI => ?_) (fun s hI => ?_)
      · rw [if_neg (by omega)]
      · obtain ⟨s1, m⟩ := s
        obtain ⟨h1, h2⟩ := hI
        dsimp only at h1 h2
        subst h1
        unfold fX10_keepsPast_L13
        dsimp only
        rw [l13570]
        refine ok_f (fun q => by have := (nIle (by omega) (by omega)).mp q; omega) ?_
        refine ok_zob (zin_n (by omega) (by omega)) ?_
        rw [l1357, pk_sub (by omega)]
        refine ok_zob (zin_n (by omega) (by omega)) ?_
        rw [zn_n (by omega), zn_n (by omega)]
        refine ok_some (Or.inl ⟨_, rfl, by rw [nI_1], fun k j s' => ?_⟩)
        dsimp only
        rw [gi_wi]
        by_cases e : k = 40 ∧ j = 0 ∧ s' = i - 1357
        · rw [if_pos e, if_pos ⟨e.1, e.2.1, by omega⟩, h2, if_neg (by omega), show s' + 1357 = i by omega]
        · rw [if_neg e, h2]
          by_cases e2 : k = 40 ∧ j = 0 ∧ s' + 1357 < i
          · rw [if_pos e2, if_pos ⟨e2.1, e2.2.1, by omega⟩]
          · rw [if_neg e2, if_neg (fun q => e ⟨q.1, q.2.1, by omega⟩)]
      · obtain ⟨s1, m⟩ := s
        obtain ⟨h1, h2⟩ := hI
        dsimp only at h1 h2
        subst h1
        unfold fX10_keepsPast_L13
        dsimp only
        rw [l13570]
        exact ok_t (Int32.le_refl _) (ok_some ⟨_, rfl, m, rfl, h2⟩)
    · obtain ⟨m', rfl, h⟩ := ho
      show ok (fX10_keepsPast_J52 _) _
      have e10 : gi m' 10 0 5 = nI 10 := by rw [h, if_neg (by omega)]; exact hh
      rw [e10, l1, pk_sub (by omega)]
      refine ok_mono (qKeepsPast_J52 (h := 9) (by rw [gi_wi, if_pos ⟨rfl, rfl, rfl⟩]) (by omega)) (fun m2 hm2 => ⟨hm2.1.1, fun j s hs hj => ?_⟩)
      rw [hm2.1.2]
      by_cases e : j = 9
      · subst e
        rw [if_pos (by omega), if_pos (by omega), gi_wi, if_neg (by omega), h, if_neg (by omega), show 1357 * 9 + s - 1357 * 9 = s by omega]
      · have hj9 : j < 9 := by omega
        rw [if_neg (by omega), if_neg (by omega), if_pos rfl, gi_wi, if_neg (by omega), h, if_pos ⟨rfl, rfl, by omega⟩, show 1357 * j + s + 1357 = 1357 * (j + 1) + s by omega]
  · refine ok_f (fun z => q ((nIeq (by omega) (by omega)).mp z)) ?_
    refine ok_mono (qKeepsPast_J52 hh (by omega)) (fun m2 hm2 => ⟨by rw [hm2.1.1, show min (h + 1) 10 = h + 1 by omega], fun j s hs hj => ?_⟩)
    rw [hm2.1.2]
    by_cases e : j = h
    · subst e
      rw [if_pos (by omega), if_pos (by omega), show 1357 * j + s - 1357 * j = s by omega]
    · have hj9 : j < h := by omega
      have : 1357 * j + 1357 ≤ 1357 * h := by omega
      rw [if_neg (by omega), if_neg (by omega), if_neg q]
