/-! a change put -/
section LX
variable {t : Nat} {T : Nat → Nat}
theorem DU_use {d n : Nat} {c c' r r' : zM} (h : DU d n c r) (f : FS [5, 30, 31, 34] c c') (h5 : ∀ i, i ≠ 2 * (12 * d + n) + 1 → gi c' 5 i 1 = gi c 5 i 1) (h30 : ∀ i s, i ≠ 2 * (12 * d + n) + 1 → gi c' 30 i s = gi c 30 i s) (h31 : ∀ i s, i ≠ 12 * d + n → gi c' 31 i s = gi c 31 i s) (h34 : ∀ i s, i ≠ 12 * d + n → gi c' 34 i s = gi c 34 i s) (g : FS [39] r r') (hr : ∀ s, s < 113 * n + 7 ∨ 113 * n + 64 ≤ s → gi r' 39 0 s = gi r 39 0 s) (hUS : US n (uC c' (12 * d + n)) (rR r' 39 0 n)) (hk : ∀ k, k < zn (rR r' 39 0 n 7) → gi r 39 0 (113 * zn (rR r' 39 0 n (8 + 14 * k))) = 1) : DU d n c' r' ∧ DF d c c' := by
  obtain ⟨u1, u2⟩ := uC_use f h5 h30 h31 h34
  have hRU := h.ru
  have rs : ∀ s, s < 113 → s < 7 ∨ 64 ≤ s → rR r' 39 0 n s = rR r 39 0 n s := fun s h1 h2 => by
    rw [rR_0 (by omega), rR_0 (by omega)]
    exact hr _ (by omega)
  refine ⟨DU_act h (FS_mono (zss (by decide)) f) u1 g (fun s hs => hr s (by omega)) ⟨⟨?_, ?_, ?_, ?_⟩, ?_, hUS, ?_⟩ (rs 0 (by omega) (by omega)) (fun k hk => ?_) (fun k hk2 => ?_), DF_u h.2.2.2.1 (FS_mono (zss (by decide)) f) u1⟩
  · rw [rs 0 (by omega) (by omega)]; exact hRU.1.1
  · rw [rs 0 (by omega) (by omega), u2 0 (by omega)]; exact hRU.1.2.1
  · rw [rs 1 (by omega) (by omega)]; exact hRU.1.2.2.1
  · rw [rs 1 (by omega) (by omega), u2 1 (by omega)]; exact hRU.1.2.2.2
  · exact PS_cg hRU.2.1 (fun s h1 h2 => rs s (by omega) (by omega)) (fun s h1 h2 => u2 s (by omega))
  · exact OS_cg hRU.2.2.2 (fun s h1 h2 => rs s (by omega) (by omega)) (u2 2 (by omega)) (fun s h1 h2 => u2 s (by omega))
  · rw [rs 2 (by omega) (by omega)] at hk
    have hk4 := hRU.2.1.lt hk
    rw [rs _ (by omega) (by omega)]
    exact (h.2.2.2.2.2 n (by omega)).2.1 k hk
  · have := hk k hk2
    rw [rR_0 (by omega), Nat.add_zero]
    exact this
/-- the changes told of use k -/
def CH (n k e B : Nat) (r : zM) : Prop := gi r 39 0 (113 * n + 7) = nI (k + 1) ∧ k < 4 ∧ gi r 39 0 (113 * n + (9 + 14 * k)) = nI e ∧ B < 2 ^ 26 ∧ ∀ j, j < e → ∃ l, l < 26 ∧ gi r 39 0 (113 * n + (10 + 14 * k + 2 * j)) = nI l ∧ B.testBit l = true
theorem CH_fs {n k e B : Nat} {r r' : zM} (h : CH n k e B r) (g : FS [2008, 2009, 2010, 2011] r r') : CH n k e B r' := by
  obtain ⟨h1, h2, h3, h4, h5⟩ := h
  have e39 : ∀ s, gi r' 39 0 s = gi r 39 0 s := fun s => FSa g 0 s (by decide) (by decide)
  refine ⟨by rw [e39]; exact h1, h2, by rw [e39]; exact h3, h4, fun j hj => ?_⟩
  obtain ⟨l, l1, l2, l3⟩ := h5 j hj
  exact ⟨l, l1, by rw [e39]; exact l2, l3⟩
theorem lays_put {d n k e B m : Nat} {to : Int32} {c r : zM} (h : DU d n c r) (hC : CH n k e B r) (he : e < 6) (hm : m < 26) (hB : B.testBit m = false) (hto : to = -1 ∨ zin to 26 = true) (h9 : gi r 10 0 9 = -1) : ok2 (fX7_setLetterThere (12 * d + n) (nI k) (nI m) to c) (fX10_lays (nI (113 * n + (8 + 14 * k))) (nI m) to r) (fun c' r' => DU d n c' r' ∧ DF d c c' ∧ FS [31, 34] c c' ∧ FS [39] r r' ∧ (∃ e', e' ≤ e + 1 ∧ CH n k e' (B ||| 2 ^ m) r') ∧ ∀ s, s < 113 * n + 7 ∨ 113 * n + 64 ≤ s → gi r' 39 0 s = gi r 39 0 s) := by
  obtain ⟨h1, hk4, h3, hB26, h5⟩ := id hC
  have hn := h.2.2.2.1
  have hUS := h.ru.2.2.1
  have r7 : rR r 39 0 n 7 = nI (k + 1) := by rw [rR_0 (by omega)]; exact h1
  have z7 : zn (rR r 39 0 n 7) = k + 1 := by rw [r7, zn_n (by omega)]
  have hU1 := hUS.2.2 k (by rw [z7]; omega)
  have r9 : rR r 39 0 n (9 + 14 * k) = nI e := by rw [rR_0 (by omega)]; exact h3
  have hno : zfd (fun i => rR r 39 0 n (10 + 14 * k + 2 * i)) (nI m) e = none := by
    refine zfd_no (fun j hj q => ?_)
    obtain ⟨l, l1, l2, l3⟩ := h5 j hj
    have q' : rR r 39 0 n (10 + 14 * k + 2 * j) = nI m := q
    rw [rR_0 (by omega), l2] at q'
    have := (nIeq (by omega) (by omega)).mp q'
    rw [this, hB] at l3
    cases l3
  have c34 : gi c 34 (12 * d + n) (26 * k + m) = nI m := by
    have := hU1.2.2.2.2.2.2 m hm
    rw [uC_lt (by omega)] at this
    rw [this]
    unfold becR
    rw [r9, zn_n (by omega), hno]
  have c31 : gi c 31 (12 * d + n) k = nI e := by
    have := hU1.2.2.2.1
    rw [uC_ch hk4] at this
    rw [this]; exact r9
  have tbm : ∀ l, (B ||| 2 ^ m).testBit l = (B.testBit l || decide (m = l)) := fun l => tb_set B m l
  have hB' : B ||| 2 ^ m < 2 ^ 26 := or_lt hB26 (Nat.pow_lt_pow_right (by decide) hm)
  have hS := pX7_set (to := to) hk4 hm c31 (fun q => absurd c34 q)
  rw [c34] at hS
  by_cases e0 : to = nI m
  · have hL : fX10_lays (nI (113 * n + (8 + 14 * k))) (nI m) to r = some r := by
      unfold fX10_lays
      rw [qRight h9, Option.bind_some, if_neg n10, if_pos e0.symm]
    rw [hL]
    refine ok2_of hS (ok_some rfl) (fun c' r' hc hr => ?_)
    subst hr
    obtain ⟨⟨a1, a2⟩, f⟩ := hc
    have uc : ∀ q, uC c' q = uC c q := fun q => by
      refine uC_cg (fun s _ => FSa f q s (by decide) (by decide)) (FSa f _ _ (by decide) (by decide)) (fun s _ => FSa f _ s (by decide) (by decide)) (FSa f _ _ (by decide) (by decide)) (fun s _ => FSa f _ s (by decide) (by decide)) (fun s _ => ?_) (fun s _ => FSa f q s (by decide) (by decide)) (fun s _ => FSa f q s (by decide) (by decide)) (fun s _ => ?_)
      · rw [a1, if_pos (show nI m = nI m from rfl), if_pos e0]
        by_cases w : q = 12 * d + n ∧ s = k
        · rw [if_pos w, w.1, w.2, c31]
        · rw [if_neg w]
      · rw [a2]
        by_cases w : q = 12 * d + n ∧ s = 26 * k + m
        · rw [if_pos w, w.1, w.2, c34, e0]
        · rw [if_neg w]
    obtain ⟨q1, q2, q3, q4, q5⟩ := h
    refine ⟨⟨by rw [FSr f 7 (by decide)]; exact q1, by rw [FSa f d 1 (by decide) (by decide)]; exact q2, q3, q4, RelW_cg q5 (fun u _ => uc _) (fun u _ => rfl)⟩, ⟨FS_mono (zss (by decide)) f, fun q _ => uc q, fun i _ => FSa f i 1 (by decide) (by decide)⟩, f, FS_refl r, ⟨e, by omega, h1, hk4, h3, hB', fun j hj => ?_⟩, fun s _ => rfl⟩
    obtain ⟨l, l1, l2, l3⟩ := h5 j hj
    exact ⟨l, l1, l2, by rw [tbm, l3]; rfl⟩
  · have hL : fX10_lays (nI (113 * n + (8 + 14 * k))) (nI m) to r = some (wi (wi (wi r 39 0 (113 * n + (10 + 14 * k + 2 * e)) (nI m)) 39 0 (113 * n + (11 + 14 * k + 2 * e)) to) 39 0 (113 * n + (9 + 14 * k)) (nI (e + 1))) := by
      unfold fX10_lays
      rw [qRight h9, Option.bind_some, if_neg n10, if_neg (fun q => e0 q.symm), nI_1 (113 * n + (8 + 14 * k)), show nI (113 * n + (8 + 14 * k)) + 2 = nI (113 * n + (8 + 14 * k) + 2) from nI_add _ 2, zo _ (by omega) (by omega), zn_n (by omega), show 113 * n + (8 + 14 * k) + 1 = 113 * n + (9 + 14 * k) by omega, h3, show (2 : Int32) * nI e = nI (2 * e) from pk_mul 2 e, nI_add, nI_1 (113 * n + (8 + 14 * k) + 2 + 2 * e), zo _ (by omega) (by omega), zo _ (by omega) (by omega), zo _ (by omega) (by omega), zo _ (by omega) (by omega), zn_n (by omega), zn_n (by omega), gi_wi, if_neg (by omega), gi_wi, if_neg (by omega), h3, nI_1 e, show 113 * n + (8 + 14 * k) + 2 + 2 * e = 113 * n + (10 + 14 * k + 2 * e) by omega, show 113 * n + (10 + 14 * k + 2 * e) + 1 = 113 * n + (11 + 14 * k + 2 * e) by omega]
    rw [hL]
    refine ok2_of hS (ok_some rfl) (fun c' r' hc hr' => ?_)
    obtain ⟨⟨a1, a2⟩, f⟩ := hc
    rw [if_pos (show nI m = nI m from rfl), if_neg e0] at a1
    have g : FS [39] r r' := by rw [← hr']; exact FS_wa (by decide) (by decide) (FS_wa (by decide) (by decide) (FS_wa (by decide) (by decide) (FS_refl r)))
    have gr' : ∀ s, gi r' 39 0 s = if s = 113 * n + (9 + 14 * k) then nI (e + 1) else if s = 113 * n + (11 + 14 * k + 2 * e) then to else if s = 113 * n + (10 + 14 * k + 2 * e) then nI m else gi r 39 0 s := fun s => by
      rw [← hr', gi_wi]
      by_cases x1 : s = 113 * n + (9 + 14 * k)
      · rw [if_pos ⟨rfl, rfl, x1⟩, if_pos x1]
      · rw [if_neg (fun q => x1 q.2.2), if_neg x1, gi_wi]
        by_cases x2 : s = 113 * n + (11 + 14 * k + 2 * e)
        · rw [if_pos ⟨rfl, rfl, x2⟩, if_pos x2]
        · rw [if_neg (fun q => x2 q.2.2), if_neg x2, gi_wi]
          by_cases x3 : s = 113 * n + (10 + 14 * k + 2 * e)
          · rw [if_pos ⟨rfl, rfl, x3⟩, if_pos x3]
          · rw [if_neg (fun q => x3 q.2.2), if_neg x3]
    have ru : ∀ s, s < 113 → rR r' 39 0 n s = if s = 9 + 14 * k then nI (e + 1) else if s = 11 + 14 * k + 2 * e then to else if s = 10 + 14 * k + 2 * e then nI m else rR r 39 0 n s := fun s hs => by
      rw [rR_0 hs, gr']
      by_cases x1 : s = 9 + 14 * k
      · rw [if_pos (by omega), if_pos x1]
      · rw [if_neg (by omega), if_neg x1]
        by_cases x2 : s = 11 + 14 * k + 2 * e
        · rw [if_pos (by omega), if_pos x2]
        · rw [if_neg (by omega), if_neg x2]
          by_cases x3 : s = 10 + 14 * k + 2 * e
          · rw [if_pos (by omega), if_pos x3]
          · rw [if_neg (by omega), if_neg x3, rR_0 hs]
    have f' : FS [5, 30, 31, 34] c c' := FS_mono (zss (by decide)) f
    have h5' : ∀ i, gi c' 5 i 1 = gi c 5 i 1 := fun i => FSa f i 1 (by decide) (by decide)
    have h30' : ∀ i s, gi c' 30 i s = gi c 30 i s := fun i s => FSa f i s (by decide) (by decide)
    have hU1' : U1 n k (uC c' (12 * d + n)) (rR r' 39 0 n) := by
      refine U1_new hU1 r9 he hno hm hto e0 ?_ ?_ ?_ ?_ (fun i hi => ⟨?_, ?_⟩) ?_ ?_ ?_ (fun m' h1 h2 => ?_)
      · rw [ru _ (by omega), if_neg (by omega), if_neg (by omega), if_neg (by omega)]
      · rw [ru _ (by omega), if_pos rfl]
      · rw [ru _ (by omega), if_neg (by omega), if_neg (by omega), if_pos rfl]
      · rw [ru _ (by omega), if_neg (by omega), if_pos rfl]
      · rw [ru _ (by omega), if_neg (by omega), if_neg (by omega), if_neg (by omega)]
      · rw [ru _ (by omega), if_neg (by omega), if_neg (by omega), if_neg (by omega)]
      · rw [uC_ui hk4, uC_ui hk4, h30']
      · rw [uC_ch hk4, a1, if_pos ⟨rfl, rfl⟩]
      · rw [uC_lt (by omega), a2, if_pos ⟨rfl, rfl⟩]
      · rw [uC_lt (by omega), uC_lt (by omega), a2, if_neg (by omega)]
    have hUS' : US n (uC c' (12 * d + n)) (rR r' 39 0 n) := by
      refine US_one hUS (by rw [ru _ (by omega), if_neg (by omega), if_neg (by omega), if_neg (by omega)]) (by rw [uC_us, uC_us, h5']) hU1' (fun s h1 h2 h3 => by rw [ru _ (by omega), if_neg (by omega), if_neg (by omega), if_neg (by omega)]) (fun j h1 h2 => ⟨by rw [uC_ui h1, uC_ui h1, h30'], by rw [uC_ch h1, uC_ch h1, a1, if_neg (by omega)]⟩) (fun j h1 h2 => by rw [uC_lt h1, uC_lt h1, a2, if_neg (by omega)])
    obtain ⟨k1, k2⟩ := DU_use h f' (fun i _ => h5' i) (fun i s _ => h30' i s) (fun i s hi => by rw [a1, if_neg (fun q => hi q.1)]) (fun i s hi => by rw [a2, if_neg (fun q => hi q.1)]) g (fun s hs => by rw [gr', if_neg (by omega), if_neg (by omega), if_neg (by omega)]) hUS' (fun j hj => by
      rw [ru 7 (by omega), if_neg (by omega), if_neg (by omega), if_neg (by omega)] at hj
      have hj4 := hUS.lt hj
      rw [ru _ (by omega), if_neg (by omega), if_neg (by omega), if_neg (by omega)]
      have := (h.2.2.2.2.2 n (by omega)).2.2 j hj
      dsimp only at this
      rw [rR_0 (by omega), Nat.add_zero] at this
      exact this)
    refine ⟨k1, k2, f, g, ⟨e + 1, by omega, by rw [gr', if_neg (by omega), if_neg (by omega), if_neg (by omega)]; exact h1, hk4, by rw [gr', if_pos rfl], hB', fun j hj => ?_⟩, fun s hs => by rw [gr', if_neg (by omega), if_neg (by omega), if_neg (by omega)]⟩
    by_cases x : j = e
    · subst x
      exact ⟨m, hm, by rw [gr', if_neg (by omega), if_neg (by omega), if_pos rfl], by rw [tbm]; simp⟩
    · obtain ⟨l, l1, l2, l3⟩ := h5 j (by omega)
      exact ⟨l, l1, by rw [gr', if_neg (by omega), if_neg (by omega), if_neg (by omega)]; exact l2, by rw [tbm, l3]; rfl⟩
end LX
