/-! readChanges, readTraits -/
section LX
variable {t : Nat} {T : Nat → Nat}
theorem changesL {d n k p q : Nat} {v1 v2 : Int32} {c r : zM} (hB : TB t T) (h : LC t T p q c) (hR : AR t T q r) (hU : DU d n c r) (hC : CH n k 0 0 r) : ok2 (fX4_readChanges (12 * d + n) (nI k) c) (zloop (fX10_readsUses_L103 v1 v2 (nI (113 * n + (8 + 14 * k)))) zF (0, 1, wi r 10 0 11 0)) (fun a o => ∃ r', o = Sum.inl r' ∧ DF d c a.2 ∧ FS KRr r r' ∧ ((a.1 = 1 ∧ ∃ p0 p q, sg t T p0 = 41 ∧ p0 ≤ t ∧ LR t T p0 r' ∧ En (sp t T) (p0 + 1) p ∧ LC t T p q a.2 ∧ DU d n a.2 r' ∧ gi r' 39 0 (113 * n + 7) = nI (k + 1) ∧ ∀ s, s < 113 * n + 7 ∨ 113 * n + 64 ≤ s → gi r' 39 0 s = gi r 39 0 s) ∨ (a.1 = 0 ∧ ∃ F, gi a.2 4 0 5 = F ∧ F ≠ 0 ∧ WR t T F r'))) := by
  have ht := hB.1
  have hn := hU.2.2.2.1
  unfold fX4_readChanges
  refine ok2_l (pass_LC hB h) (fun c0 h0 => ?_)
  obtain ⟨p0, q0, e0, e1, e2⟩ := h0
  have fr := FS_wf (v := 0) (k := 10) (s := 11) (i := 0) (ks := [2011]) (by decide) (by decide) (FS_refl r)
  have fc := FS_wf (v := 0) (k := 4) (s := 6) (i := 0) (ks := [1406]) (by decide) (by decide) (FS_refl c0)
  have key : ok2 (zloop (fX4_readChanges_L11 (12 * d + n) (nI k)) zF (0, wi c0 4 0 6 0)) (zloop (fX10_readsUses_L103 v1 v2 (nI (113 * n + (8 + 14 * k)))) zF (0, 1, wi r 10 0 11 0)) (fun e e' => ∃ a r', e = Sum.inr a ∧ e' = Sum.inl r' ∧ DF d c a.2 ∧ FS KRr r r' ∧ ((a.1 = 1 ∧ ∃ p0 p q, sg t T p0 = 41 ∧ p0 ≤ t ∧ LR t T p0 r' ∧ En (sp t T) (p0 + 1) p ∧ LC t T p q a.2 ∧ DU d n a.2 r' ∧ gi r' 39 0 (113 * n + 7) = nI (k + 1) ∧ ∀ s, s < 113 * n + 7 ∨ 113 * n + 64 ≤ s → gi r' 39 0 s = gi r 39 0 s) ∨ (a.1 = 0 ∧ ∃ F, gi a.2 4 0 5 = F ∧ F ≠ 0 ∧ WR t T F r'))) := by
    refine ok2_ph (fun u e => u.2.1 = 0 ∧ e = Sum.inl u.2.2) (fun u e hu => by
      obtain ⟨u1, u2, u3⟩ := u
      obtain ⟨hu1, hu2⟩ := hu
      dsimp only at hu1 hu2
      subst hu1; subst hu2
      unfold fX10_readsUses_L103
      dsimp only
      rw [if_pos rfl]) (I := fun j s u => ∃ i p q c' r' f e B, j = 7 - i ∧ i ≤ 6 ∧ s = (nI i, c') ∧ u = (nI i, f, r') ∧ LC t T p q c' ∧ LR t T p r' ∧ DU d n c' r' ∧ CH n k e B r' ∧ gi c' 4 0 6 = nI B ∧ gi r' 10 0 11 = nI B ∧ e ≤ i ∧ (∀ s, s < 113 * n + 7 ∨ 113 * n + 64 ≤ s → gi r' 39 0 s = gi r 39 0 s) ∧ DF d c c' ∧ FS KRr r r' ∧ ((f = 1 ∧ (i = 0 ∨ ¬ sg t T p = 41)) ∨ (f = 0 ∧ 0 < i ∧ sg t T p = 41))) (fun j s u hI => ?_) 7 zF zF _ _ ⟨0, p0, q0, _, _, 1, 0, 0, rfl, by omega, rfl, rfl, LC_fs e1 fc (by decide), LR_fs ⟨q, hR, e0⟩ fr (by decide), DU_fs hU (FS_tr (lxc e2 (by decide)) (lxc fc (by decide))) (lxr fr (by decide)), CH_fs hC (lxr fr (by decide)), by rw [gi_wi, if_pos ⟨rfl, rfl, rfl⟩]; rfl, by rw [gi_wi, if_pos ⟨rfl, rfl, rfl⟩]; rfl, by omega, fun s _ => by rw [gi_wi, if_neg (by omega)], DF_lx (FS_tr (lxc e2 (by decide)) (lxc fc (by decide))), krr fr (by decide), Or.inl ⟨rfl, Or.inl rfl⟩⟩ (by unfold zF; omega) (by unfold zF; omega)
    clear e0 e1 e2 h hR hU hC fr fc
    obtain ⟨i, p, q, c1, r1, fl, e, B, rfl, hi, rfl, rfl, h, hR, hU, hC, hb, hrb, he, hS, hDF, hFR, hf⟩ := hI
    have hK := h.2.1
    have hp := hK.1
    unfold fX4_readChanges_L11 fX10_readsUses_L103
    dsimp only
    refine ok2_fl (show ¬ 6 < nI i from fun q => by have := (nIlt (a := 6) (by omega) (by omega)).mp q; omega) ?_
    rcases hf with ⟨rfl, hw⟩ | ⟨rfl, i0, s41⟩
    rotate_left
    · rw [if_neg (show ¬ nI i ≤ 0 from nI_nle i0 (by omega)), h.2.2.2.2.1, if_pos (show Cs (sg t T p) = 41 from (Cs_v _ (sg_lt hB p) 41 (by omega)).mpr s41), if_pos (show (0 : Int32) = 0 from rfl)]
      refine ok2_l (pass_LC hB h) (fun c3 h3 => ?_)
      obtain ⟨p', q', x1, x2, x3⟩ := h3
      obtain ⟨w1, w2⟩ := sg_1 hK s41 (by omega) (by omega) (by omega)
      rw [w1] at x1
      exact ok2_some (Or.inr (Or.inr ⟨_, _, rfl, rfl, _, _, rfl, rfl, DF_tr hDF (DF_lx (lxc x3 (by decide))), hFR, Or.inl ⟨rfl, p, p', q', s41, hp, hR, x1, x2, DU_fs hU (lxc x3 (by decide)) (FS_refl r1), hC.1, hS⟩⟩))
    have eJ : (if nI i ≤ 0 then fX4_readChanges_J36 (12 * d + n) (nI k) (nI i) c1 else if gi c1 4 0 4 = 41 then (fX4_pass c1).bind (fun x3 => some (.inr (.inr ((1, x3))))) else fX4_readChanges_J36 (12 * d + n) (nI k) (nI i) c1) = fX4_readChanges_J36 (12 * d + n) (nI k) (nI i) c1 := by
      by_cases i0 : i = 0
      · rw [i0, if_pos (show nI 0 ≤ 0 from Int32.le_refl _)]
      · have ns : ¬ sg t T p = 41 := by
          rcases hw with w | w
          · exact absurd w i0
          · exact w
        rw [if_neg (show ¬ nI i ≤ 0 from nI_nle (by omega) (by omega)), h.2.2.2.2.1, if_neg (show ¬ Cs (sg t T p) = 41 from fun w => ns ((Cs_v _ (sg_lt hB p) 41 (by omega)).mp w))]
    rw [eJ, if_neg n10, hrb]
    unfold fX4_readChanges_J36
    refine ok2_bind (change2 hB h hR hU hC hb hi he) (fun a r2 h2 => ?_)
    obtain ⟨d1, d2, ⟨d3, p', q', e', B', l1, l2, l3, l4, l5, l6, l7, l8, l9⟩ | ⟨d3, F, d4, d5, d6⟩⟩ := h2
    rotate_left
    · rw [d3, if_pos (show (0 : Int32) = 0 from rfl), d6.no, Option.bind_some, if_pos (show (0 : Int32) = 0 from rfl)]
      exact ok2_some (Or.inr (Or.inl ⟨_, _, _, rfl, rfl, ⟨rfl, rfl⟩, _, _, rfl, rfl, DF_tr hDF d1, FS_tr hFR d2, Or.inr ⟨rfl, F, d4, d5, d6⟩⟩))
    have h9 : gi r2 10 0 9 = -1 := by obtain ⟨a, a1, -⟩ := l2; exact a1.2.1
    rw [d3, if_neg n10, qRight h9, Option.bind_some, if_neg n10, nI_1]
    refine ok2_r (rNext hB l2 l1.2.1.1) (fun b3 hb3 => ?_)
    obtain ⟨y0, y1, y2⟩ := hb3
    rw [y0]
    have hnew : ∀ f : Int32, ((f = 1 ∧ (i + 1 = 0 ∨ ¬ sg t T p' = 41)) ∨ (f = 0 ∧ 0 < i + 1 ∧ sg t T p' = 41)) → ∃ i2 p q c' r' f' e B, 7 - (i + 1) = 7 - i2 ∧ i2 ≤ 6 ∧ ((nI (i + 1), a.2) : Int32 × zM) = (nI i2, c') ∧ ((nI (i + 1), f, b3.2) : Int32 × Int32 × zM) = (nI i2, f', r') ∧ LC t T p q c' ∧ LR t T p r' ∧ DU d n c' r' ∧ CH n k e B r' ∧ gi c' 4 0 6 = nI B ∧ gi r' 10 0 11 = nI B ∧ e ≤ i2 ∧ (∀ s, s < 113 * n + 7 ∨ 113 * n + 64 ≤ s → gi r' 39 0 s = gi r 39 0 s) ∧ DF d c c' ∧ FS KRr r r' ∧ ((f' = 1 ∧ (i2 = 0 ∨ ¬ sg t T p = 41)) ∨ (f' = 0 ∧ 0 < i2 ∧ sg t T p = 41)) := fun f hf => ⟨i + 1, p', q', a.2, b3.2, f, e', B', rfl, by omega, rfl, rfl, l1, AR_LR y1 l1.2.1.2.2.1, DU_fs l3 (FS_refl _) (lxr y2 (by decide)), CH_fs l4 (lxr y2 (by decide)), l5, by rw [FSf y2 0 (by decide) (by decide)]; exact l6, l8, fun s hs => by rw [FSa y2 0 s (by decide) (by decide), l9 s hs, hS s hs], DF_tr hDF d1, FS_tr (FS_tr hFR d2) (krr y2 (by decide)), hf⟩
    by_cases s41 : sg t T p' = 41
    · rw [if_pos (show Rs (sg t T p') = 41 from (Rs_v _ (sg_lt hB p') 41 (by omega)).mpr s41)]
      exact ok2_some (Or.inl ⟨_, _, 7 - (i + 1), rfl, rfl, by omega, hnew 0 (Or.inr ⟨rfl, by omega, s41⟩)⟩)
    · rw [if_neg (show ¬ Rs (sg t T p') = 41 from fun w => s41 ((Rs_v _ (sg_lt hB p') 41 (by omega)).mp w))]
      exact ok2_some (Or.inl ⟨_, _, 7 - (i + 1), rfl, rfl, by omega, hnew 1 (Or.inl ⟨rfl, Or.inr s41⟩)⟩)
  obtain ⟨e, e', e3, e4, a, r', rfl, rfl, hh⟩ := key
  rw [e3, e4, Option.bind_some]
  exact ok2_some ⟨r', rfl, hh⟩
theorem use_put {d n i u : Nat} {c r : zM} (h : DU d n c r) (hi : i < 4) (hc : gi r 39 0 (113 * n + 7) = nI i) (hu : u < n) (hu1 : gi r 39 0 (113 * u) = 1) : ok (fX7_addTrait (12 * d + n) (nI u) c) (fun c' => DU d n c' (wi (wi (wi r 39 0 (113 * n + (8 + 14 * i)) (nI u)) 39 0 (113 * n + (9 + 14 * i)) 0) 39 0 (113 * n + 7) (nI (i + 1))) ∧ DF d c c' ∧ FS [5, 30, 31, 34] c c' ∧ CH n i 0 0 (wi (wi (wi r 39 0 (113 * n + (8 + 14 * i)) (nI u)) 39 0 (113 * n + (9 + 14 * i)) 0) 39 0 (113 * n + 7) (nI (i + 1))) ∧ ∀ s, s < 113 * n + 7 ∨ 113 * n + 64 ≤ s → gi (wi (wi (wi r 39 0 (113 * n + (8 + 14 * i)) (nI u)) 39 0 (113 * n + (9 + 14 * i)) 0) 39 0 (113 * n + 7) (nI (i + 1))) 39 0 s = gi r 39 0 s) := by
  have hn := h.2.2.2.1
  have hUS := h.ru.2.2.1
  have r7 : rR r 39 0 n 7 = nI i := by rw [rR_0 (by omega)]; exact hc
  have z7 : zn (rR r 39 0 n 7) = i := by rw [r7, zn_n (by omega)]
  have c5 : gi c 5 (2 * (12 * d + n) + 1) 1 = nI i := by rw [← uC_us, hUS.2.1]; exact r7
  generalize hr' : wi (wi (wi r 39 0 (113 * n + (8 + 14 * i)) (nI u)) 39 0 (113 * n + (9 + 14 * i)) 0) 39 0 (113 * n + 7) (nI (i + 1)) = r'
  have g : FS [39] r r' := by rw [← hr']; exact FS_wa (by decide) (by decide) (FS_wa (by decide) (by decide) (FS_wa (by decide) (by decide) (FS_refl r)))
  have gr' : ∀ s, gi r' 39 0 s = if s = 113 * n + 7 then nI (i + 1) else if s = 113 * n + (9 + 14 * i) then 0 else if s = 113 * n + (8 + 14 * i) then nI u else gi r 39 0 s := fun s => by
    rw [← hr', gi_wi]
    by_cases x1 : s = 113 * n + 7
    · rw [if_pos ⟨rfl, rfl, x1⟩, if_pos x1]
    · rw [if_neg (fun q => x1 q.2.2), if_neg x1, gi_wi]
      by_cases x2 : s = 113 * n + (9 + 14 * i)
      · rw [if_pos ⟨rfl, rfl, x2⟩, if_pos x2]
      · rw [if_neg (fun q => x2 q.2.2), if_neg x2, gi_wi]
        by_cases x3 : s = 113 * n + (8 + 14 * i)
        · rw [if_pos ⟨rfl, rfl, x3⟩, if_pos x3]
        · rw [if_neg (fun q => x3 q.2.2), if_neg x3]
  have ru : ∀ s, s < 113 → rR r' 39 0 n s = if s = 7 then nI (i + 1) else if s = 9 + 14 * i then 0 else if s = 8 + 14 * i then nI u else rR r 39 0 n s := fun s hs => by
    rw [rR_0 hs, gr']
    by_cases x1 : s = 7
    · rw [if_pos (by omega), if_pos x1]
    · rw [if_neg (by omega), if_neg x1]
      by_cases x2 : s = 9 + 14 * i
      · rw [if_pos (by omega), if_pos x2]
      · rw [if_neg (by omega), if_neg x2]
        by_cases x3 : s = 8 + 14 * i
        · rw [if_pos (by omega), if_pos x3]
        · rw [if_neg (by omega), if_neg x3, rR_0 hs]
  refine ok_mono (pX7_addTrait (v := nI u) c5 hi) (fun c' hc' => ?_)
  obtain ⟨⟨a1, a2, a3, a4, a5⟩, f⟩ := hc'
  have hUS' : US n (uC c' (12 * d + n)) (rR r' 39 0 n) := by
    refine US_add hUS r7 hi hu (by omega) ?_ ?_ ?_ ?_ ?_ ?_ (fun m hm => ?_) (fun s h1 h2 => ?_) (fun k hk => ⟨?_, ?_⟩) (fun j hj => ?_)
    · rw [uC_us, a1]
    · rw [ru _ (by omega), if_pos rfl]
    · rw [uC_ui hi, a3, if_pos ⟨rfl, rfl⟩]
    · rw [ru _ (by omega), if_neg (by omega), if_neg (by omega), if_pos rfl]
    · rw [uC_ch hi, a4, if_pos ⟨rfl, rfl⟩]
    · rw [ru _ (by omega), if_neg (by omega), if_pos rfl]
    · rw [uC_lt (by omega), a5, if_pos ⟨rfl, by omega, by omega⟩, Nat.add_sub_cancel_left]
    · rw [ru _ (by omega), if_neg (by omega), if_neg (by omega), if_neg (by omega)]
    · rw [uC_ui (by omega), uC_ui (by omega), a3, if_neg (by omega)]
    · rw [uC_ch (by omega), uC_ch (by omega), a4, if_neg (by omega)]
    · rw [uC_lt (by omega), uC_lt (by omega), a5, if_neg (by omega)]
  obtain ⟨k1, k2⟩ := DU_use h f (fun j hj => a2 j hj) (fun j s hj => by rw [a3, if_neg (fun q => hj q.1)]) (fun j s hj => by rw [a4, if_neg (fun q => hj q.1)]) (fun j s hj => by rw [a5, if_neg (fun q => hj q.1)]) g (fun s hs => by rw [gr', if_neg (by omega), if_neg (by omega), if_neg (by omega)]) hUS' (fun j hj => by
    rw [ru 7 (by omega), if_pos rfl, zn_n (by omega)] at hj
    by_cases x : j = i
    · subst x
      rw [ru _ (by omega), if_neg (by omega), if_neg (by omega), if_pos rfl, zn_n (by omega)]
      exact hu1
    · rw [ru _ (by omega), if_neg (by omega), if_neg (by omega), if_neg (by omega)]
      have := (h.2.2.2.2.2 n (by omega)).2.2 j (by show j < zn (rR r 39 0 n 7); rw [z7]; omega)
      dsimp only at this
      rw [rR_0 (by omega), Nat.add_zero] at this
      exact this)
  exact ⟨k1, k2, f, ⟨by rw [gr', if_pos rfl], hi, by rw [gr', if_neg (by omega), if_pos rfl]; rfl, by decide, fun j hj => by omega⟩, fun s hs => by rw [gr', if_neg (by omega), if_neg (by omega), if_neg (by omega)]⟩
theorem r155 {p : Nat} {v1 v2 : Int32} {r : zM} (hB : TB t T) (h : LR t T p r) (hp : p ≤ t) : ok (fX10_readsUses_J155 v1 v2 r) (fun o => ∃ fl r', o = .inl (fl, r') ∧ ((fl = 1 ∧ (65 ≤ sg t T p ∧ sg t T p ≤ 90)) ∨ (fl = 0 ∧ ¬ (65 ≤ sg t T p ∧ sg t T p ≤ 90))) ∧ AR t T p r' ∧ FS [2008] r r') := by
  unfold fX10_readsUses_J155
  have h9 : gi r 10 0 9 = -1 := by obtain ⟨a, a1, -⟩ := h; exact a1.2.1
  rw [qRight h9, Option.bind_some, if_neg n10]
  refine ok_bind (rCap hB h hp) (fun x hx => ?_)
  by_cases w : 65 ≤ sg t T p ∧ sg t T p ≤ 90
  · rw [hx.1 w, if_neg n10]
    exact ok_some ⟨1, x.2, rfl, Or.inl ⟨rfl, w⟩, hx.2.2.1, hx.2.2.2⟩
  · rw [hx.2.1 w, if_pos (show (0 : Int32) = 0 from rfl)]
    exact ok_some ⟨0, x.2, rfl, Or.inr ⟨rfl, w⟩, hx.2.2.1, hx.2.2.2⟩
theorem w155 {v1 v2 F : Int32} {r : zM} (h : WR t T F r) : fX10_readsUses_J155 v1 v2 r = some (.inl (0, r)) := by
  unfold fX10_readsUses_J155
  rw [h.no, Option.bind_some, if_pos rfl]
end LX
