/-! readParents -/
section LX
variable {t : Nat} {T : Nat → Nat}
theorem par_put {d n i u : Nat} {c r : zM} (h : DU d n c r) (h0 : gi r 39 0 (113 * n) = 0) (hi : i < 4) (hc : gi r 39 0 (113 * n + 2) = nI i) (hu : u < n) (hu0 : gi r 39 0 (113 * u) = 0) : DU d n (wi (wi c 30 (2 * (12 * d + n)) i (nI u)) 5 (2 * (12 * d + n)) 1 (nI (i + 1))) (wi (wi r 39 0 (113 * n + 2) (nI (i + 1))) 39 0 (113 * n + (3 + i)) (nI u)) ∧ DF d c (wi (wi c 30 (2 * (12 * d + n)) i (nI u)) 5 (2 * (12 * d + n)) 1 (nI (i + 1))) ∧ gi (wi (wi r 39 0 (113 * n + 2) (nI (i + 1))) 39 0 (113 * n + (3 + i)) (nI u)) 39 0 (113 * n + 2) = nI (i + 1) ∧ ∀ s, s < 113 * n + 2 ∨ 113 * n + 7 ≤ s → gi (wi (wi r 39 0 (113 * n + 2) (nI (i + 1))) 39 0 (113 * n + (3 + i)) (nI u)) 39 0 s = gi r 39 0 s := by
  have hRU := h.ru
  have hn := h.2.2.2.1
  generalize hc' : wi (wi c 30 (2 * (12 * d + n)) i (nI u)) 5 (2 * (12 * d + n)) 1 (nI (i + 1)) = c'
  generalize hr' : wi (wi r 39 0 (113 * n + 2) (nI (i + 1))) 39 0 (113 * n + (3 + i)) (nI u) = r'
  have f : FS [5, 30] c c' := by rw [← hc']; exact FS_wa (by decide) (by decide) (FS_wa (by decide) (by decide) (FS_refl c))
  have g : FS [39] r r' := by rw [← hr']; exact FS_wa (by decide) (by decide) (FS_wa (by decide) (by decide) (FS_refl r))
  have gr' : ∀ s, gi r' 39 0 s = if s = 113 * n + (3 + i) then nI u else if s = 113 * n + 2 then nI (i + 1) else gi r 39 0 s := fun s => by
    rw [← hr', gi_wi]
    by_cases e : s = 113 * n + (3 + i)
    · rw [if_pos ⟨rfl, rfl, e⟩, if_pos e]
    · rw [if_neg (fun q => e q.2.2), if_neg e, gi_wi]
      by_cases e2 : s = 113 * n + 2
      · rw [if_pos ⟨rfl, rfl, e2⟩, if_pos e2]
      · rw [if_neg (fun q => e2 q.2.2), if_neg e2]
  have ru : ∀ s, s < 113 → rR r' 39 0 n s = if s = 3 + i then nI u else if s = 2 then nI (i + 1) else rR r 39 0 n s := fun s hs => by
    rw [rR_0 hs, gr']
    by_cases e : s = 3 + i
    · rw [if_pos (by omega), if_pos e]
    · rw [if_neg (by omega), if_neg e]
      by_cases e2 : s = 2
      · rw [if_pos (by omega), if_pos e2]
      · rw [if_neg (by omega), if_neg e2, rR_0 hs]
  have uc : ∀ s, uC c' (12 * d + n) s = if s = 3 then nI (i + 1) else if s = 4 + i then nI u else uC c (12 * d + n) s := fun s => by
    rw [← hc', uC_wps, if_pos rfl]
    unfold up
    by_cases e : s = 3
    · rw [if_pos e, if_pos e]
    · rw [if_neg e, if_neg e, uC_wpi (by omega), if_pos rfl]
      rfl
  obtain ⟨u1, u2⟩ := uC_par (N := 12 * d + n) f (fun j hj => by rw [← hc', gi_wi, if_neg (by omega), gi_wi, if_neg (by omega)]) (fun j s hj => by rw [← hc', gi_wi, if_neg (by omega), gi_wi, if_neg (by omega)])
  have r2 : rR r 39 0 n 2 = nI i := by rw [rR_0 (by omega)]; exact hc
  have z2 : zn (rR r 39 0 n 2) = i := by rw [r2, zn_n (by omega)]
  refine ⟨DU_act h (FS_mono (zss (by decide)) f) u1 g (fun s hs => by rw [gr', if_neg (by omega), if_neg (by omega)]) ⟨⟨?_, ?_, ?_, ?_⟩, ?_, ?_, ?_⟩ (by rw [ru 0 (by omega), if_neg (by omega), if_neg (by omega)]) (fun k hk => ?_) (fun k hk => ?_), DF_u hn (FS_mono (zss (by decide)) f) u1, by rw [gr', if_neg (by omega), if_pos rfl], fun s hs => by rw [gr', if_neg (by omega), if_neg (by omega)]⟩
  · rw [ru 0 (by omega), if_neg (by omega), if_neg (by omega)]; exact hRU.1.1
  · rw [ru 0 (by omega), if_neg (by omega), if_neg (by omega), uc, if_neg (by omega), if_neg (by omega)]; exact hRU.1.2.1
  · rw [ru 1 (by omega), if_neg (by omega), if_neg (by omega)]; exact hRU.1.2.2.1
  · rw [ru 1 (by omega), if_neg (by omega), if_neg (by omega), uc, if_neg (by omega), if_neg (by omega)]; exact hRU.1.2.2.2
  · exact PS_add hRU.2.1 r2 hi hu (by omega) (by rw [uc, if_pos rfl]) (by rw [ru 2 (by omega), if_neg (by omega), if_pos rfl]) (by rw [uc, if_neg (by omega), if_pos rfl]) (by rw [ru _ (by omega), if_pos rfl]) (fun k hk => by rw [uc, if_neg (by omega), if_neg (by omega)]) (fun k hk => by rw [ru _ (by omega), if_neg (by omega), if_neg (by omega)])
  · exact US_cg hRU.2.2.1 (fun s h1 h2 => by rw [ru _ (by omega), if_neg (by omega), if_neg (by omega)]) (fun s h1 h2 => by rw [uc, if_neg (by omega), if_neg (by omega)]) (fun s h1 h2 => by rw [uc, if_neg (by omega), if_neg (by omega)])
  · exact OS_cg hRU.2.2.2 (fun s h1 h2 => by rw [ru _ (by omega), if_neg (by omega), if_neg (by omega)]) (by rw [uc, if_neg (by omega), if_neg (by omega)]) (fun s h1 h2 => by rw [uc, if_neg (by omega), if_neg (by omega)])
  · rw [ru 2 (by omega), if_neg (by omega), if_pos rfl, zn_n (by omega)] at hk
    have n0 : rR r 39 0 n 0 = 0 := by rw [rR_0 (by omega)]; exact h0
    by_cases e : k = i
    · subst e
      rw [ru _ (by omega), if_pos rfl, zn_n (by omega)]
      exact ⟨by rw [rR_0 (by omega)]; exact hu0, n0⟩
    · rw [ru _ (by omega), if_neg (by omega), if_neg (by omega)]
      exact (h.2.2.2.2.2 n (by omega)).2.1 k (by show k < zn (rR r 39 0 n 2); rw [z2]; omega)
  · rw [ru 7 (by omega), if_neg (by omega), if_neg (by omega)] at hk
    have hk4 := hRU.2.2.1.lt hk
    rw [ru _ (by omega), if_neg (by omega), if_neg (by omega)]
    exact (h.2.2.2.2.2 n (by omega)).2.2 k hk
theorem rNamed_no {p : Nat} {v1 v2 v3 v4 : Int32} {r : zM} (hB : TB t T) (h : LR t T p r) (hp : p ≤ t) (hc : ¬ (65 ≤ sg t T p ∧ sg t T p ≤ 90)) : ok (fX10_named v1 v2 v3 v4 r) (fun b => WR t T (FL p 1) b.2 ∧ FS [2008, 2009] r b.2) := by
  unfold fX10_named
  have h9 : gi r 10 0 9 = -1 := by obtain ⟨a, a1, -⟩ := h; exact a1.2.1
  rw [qRight h9, Option.bind_some, if_neg n10]
  refine ok_bind (rCap hB h hp) (fun b hb => ?_)
  obtain ⟨-, b2, b3, b4⟩ := hb
  rw [b2 hc, if_pos (show (0 : Int32) = 0 from rfl)]
  unfold fX10_named_J14
  rw [b3.2.2, l1, qFail b3.2.1, Option.bind_some]
  exact ok_some ⟨WR_of hB b3.1 b3.2.2 hp hp (by omega), FS_wf (by decide) (by decide) (FS_mono (zss (by decide)) b4)⟩
theorem rCapF {p : Nat} {r : zM} (hB : TB t T) (h : LR t T p r) (hp : p ≤ t) : ok ((fX10_isCapital r).bind (fun x3 => some (Sum.inl (x3.1, x3.2) : (Int32 × zM) ⊕ (zM ⊕ Empty)))) (fun o => ∃ fl r', o = .inl (fl, r') ∧ ((fl = 1 ∧ (65 ≤ sg t T p ∧ sg t T p ≤ 90)) ∨ (fl = 0 ∧ ¬ (65 ≤ sg t T p ∧ sg t T p ≤ 90))) ∧ AR t T p r' ∧ FS [2008] r r') := by
  refine ok_bind (rCap hB h hp) (fun x hx => ok_some ⟨x.1, x.2, rfl, ?_, hx.2.2.1, hx.2.2.2⟩)
  by_cases w : 65 ≤ sg t T p ∧ sg t T p ≤ 90
  · exact Or.inl ⟨hx.1 w, w⟩
  · exact Or.inr ⟨hx.2.1 w, w⟩
theorem parents2 {d n p q : Nat} {c r : zM} (hB : TB t T) (h : LC t T p q c) (hR : AR t T q r) (hU : DU d n c r) (h0 : gi r 39 0 (113 * n) = 0) (hO : gi r 39 0 (113 * n + 2) = nI 0) : ok2 (fX4_readParents (12 * d + n) c) (fX10_readsParents (nI (113 * n)) r) (RD t T d n (fun r' => ∀ s, s < 113 * n + 2 ∨ 113 * n + 7 ≤ s → gi r' 39 0 s = gi r 39 0 s) c r) := by
  have ht := hB.1
  have hn := hU.2.2.2.1
  unfold fX4_readParents fX10_readsParents
  refine ok2_l (pass_LC hB h) (fun c0 h0' => ?_)
  obtain ⟨p0, q0, e0, e1, e2⟩ := h0'
  have hU0 := DU_fs hU (lxc e2 (by decide)) (FS_refl r)
  refine ok2_bind (P := fun e e' => ∃ a r', e = Sum.inr a ∧ e' = Sum.inl r' ∧ RD t T d n (fun r' => ∀ s, s < 113 * n + 2 ∨ 113 * n + 7 ≤ s → gi r' 39 0 s = gi r 39 0 s) c r a r') ?_ (fun e e' he => ?_)
  rotate_left
  · obtain ⟨a, r', rfl, rfl, hh⟩ := he
    exact ok2_some hh
  refine ok2_ph (fun u e => u.1 = 0 ∧ e = Sum.inl u.2) (fun u e hu => by
    obtain ⟨u1, u2⟩ := u
    obtain ⟨hu1, hu2⟩ := hu
    dsimp only at hu1 hu2
    subst hu1; subst hu2
    unfold fX10_readsParents_L2
    dsimp only
    rw [if_pos rfl]) (I := fun k s u => ∃ i p q c' r' f, k = 5 - i ∧ i ≤ 4 ∧ s = (nI i, c') ∧ u = (f, r') ∧ LC t T p q c' ∧ LR t T p r' ∧ DU d n c' r' ∧ gi r' 39 0 (113 * n + 2) = nI i ∧ (∀ s, s < 113 * n + 2 ∨ 113 * n + 7 ≤ s → gi r' 39 0 s = gi r 39 0 s) ∧ DF d c c' ∧ FS KRr r r' ∧ ((f = 1 ∧ (i = 0 ∨ (65 ≤ sg t T p ∧ sg t T p ≤ 90))) ∨ (f = 0 ∧ 0 < i ∧ ¬ (65 ≤ sg t T p ∧ sg t T p ≤ 90)))) (fun k s u hI => ?_) 5 zF zF (0, c0) (1, r) ⟨0, p0, q0, c0, r, 1, rfl, by omega, rfl, rfl, e1, ⟨q, hR, e0⟩, hU0, hO, fun s _ => rfl, DF_lx (lxc e2 (by decide)), FS_refl r, Or.inl ⟨rfl, Or.inl rfl⟩⟩ (by unfold zF; omega) (by unfold zF; omega)
  clear e0 e1 e2 hU0 h hR hU hO
  obtain ⟨i, p, q, c1, r1, fl, rfl, hi, rfl, rfl, h, hR, hU, hO, hS, hDF, hFR, hf⟩ := hI
  have hK := h.2.1
  have hp := hK.1
  obtain ⟨m1, m2⟩ := cName hB h
  unfold fX4_readParents_L6 fX10_readsParents_L2
  dsimp only
  refine ok2_fl (show ¬ 4 < nI i from fun q => by have := (nIlt (a := 4) (by omega) (by omega)).mp q; omega) ?_
  rcases hf with ⟨rfl, hw⟩ | ⟨rfl, i0, nl⟩
  rotate_left
  · rw [if_pos (show (0 : Int32) = 0 from rfl), m2 nl, Option.bind_some, if_pos (show (-1 : Int32) = -1 from rfl), if_pos (show 0 < nI i from (nIlt (a := 0) (by omega) (by omega)).mpr i0)]
    exact ok2_some (Or.inr (Or.inr ⟨_, _, rfl, rfl, _, _, rfl, rfl, hDF, hFR, Or.inl ⟨rfl, p, q, h, hR, hU, hS⟩⟩))
  rw [if_neg n10, show nI (113 * n) + 2 = nI (113 * n + 2) from nI_add _ 2, nI_1 (113 * n + 2), zo _ (by omega) (by omega), zn_n (by omega), hO]
  by_cases y : 65 ≤ sg t T p ∧ sg t T p ≤ 90
  rotate_left
  · have i0 : i = 0 := by
      rcases hw with w | w
      · exact w
      · exact absurd w y
    subst i0
    rw [m2 y, Option.bind_some, if_pos (show (-1 : Int32) = -1 from rfl), if_neg (show ¬ 0 < nI 0 from fun q => Int32.lt_irrefl q), show fX4_refuse 1 c1 = some (0, wi c1 4 0 5 (FL p 1)) from cRef (v := 1) h, Option.bind_some, if_pos (show (0 : Int32) = 0 from rfl)]
    refine ok2_r (rNamed_no hB hR hp y) (fun b hb => ?_)
    rw [hb.1.no, Option.bind_some, if_pos (show (0 : Int32) = 0 from rfl)]
    exact ok2_some (Or.inr (Or.inl ⟨_, _, _, rfl, rfl, ⟨rfl, rfl⟩, _, _, rfl, rfl, DF_tr hDF (DF_lx fRef.1), FS_tr hFR (krr hb.2 (by decide)), Or.inr ⟨rfl, _, fRef.2, FL_0 hB hp (by omega) (by omega), hb.1⟩⟩))
  have hP := hU.ru.2.1
  have r2 : rR r1 39 0 n 2 = nI i := by rw [rR_0 (by omega)]; exact hO
  rw [m1 y, Option.bind_some, if_neg (nIm1 (by omega)), show 113 * n + 2 + 1 = 113 * n + 3 by omega]
  show ok2 ((fX4_readOfRow (2 * (12 * d + n)) (nI 0) c1).bind _) ((fX10_named (nI 0) (nI (113 * n + 3)) (nI 1) (nI i) r1).bind _) _
  refine ok2_bind (named2 (κ := 0) (base := 113 * n + 3) (st := 1) (k := i) (W := 2 * (12 * d + n)) hB h hR hU y (by omega) hi (by rw [← uC_ps, hP.2.1]; exact r2) (fun j hj => by
    have := (hP.2.2 j (by rw [r2, zn_n (by omega)]; exact hj)).2
    rw [uC_pi (by omega), rR_0 (by omega)] at this
    rw [this, Nat.one_mul, show 113 * n + 3 + j = 113 * n + (3 + j) by omega]) (by omega)) (fun a b hb => ?_)
  obtain ⟨f1, f2, ⟨u, g1, g2, g3, g4, g5, g6, p', q', g7, g8⟩ | ⟨g1, F, g2, g3, g4⟩⟩ := hb
  rotate_left
  · rw [g1, if_pos (show (-1 : Int32) = -1 from rfl), g4.no, Option.bind_some, if_pos (show (0 : Int32) = 0 from rfl)]
    exact ok2_some (Or.inr (Or.inl ⟨_, _, _, rfl, rfl, ⟨rfl, rfl⟩, _, _, rfl, rfl, DF_tr hDF (DF_lx f1), FS_tr hFR (krr f2 (by decide)), Or.inr ⟨rfl, F, g2, g3, g4⟩⟩))
  have e39 : ∀ s, gi b.2 39 0 s = gi r1 39 0 s := fun s => FSa f2 0 s (by decide) (by decide)
  have hUb : DU d n a.2 b.2 := DU_fs hU f1 f2
  rw [g2, if_neg (nIm1 (by omega)), qRight g6.2.1, Option.bind_some, if_neg n10, g3]
  have hPb := hUb.ru.2.1
  have c5 : gi a.2 5 (2 * (12 * d + n)) 1 = nI i := by
    rw [← uC_ps, hPb.2.1, rR_0 (by omega), e39]; exact hO
  rw [pX5_add c5 g5, Option.bind_some]
  obtain ⟨k1, k2, k3, k4⟩ := par_put hUb (by rw [e39, hS _ (by omega)]; exact h0) g5 (by rw [e39]; exact hO) g1 (by rw [e39]; exact g4)
  rw [zo _ (by omega) (by omega), zo _ (by omega) (by omega), zo _ (by omega) (by omega), e39, hO, nI_1, gi_wi, if_pos ⟨rfl, rfl, rfl⟩, nI_add, zo _ (by omega) (by omega), zn_n (by omega), show 113 * n + 2 + (i + 1) = 113 * n + (3 + i) by omega]
  generalize hc2 : wi (wi a.2 30 (2 * (12 * d + n)) i (nI u)) 5 (2 * (12 * d + n)) 1 (nI (i + 1)) = c2 at k1 k2 ⊢
  generalize hr2 : wi (wi b.2 39 0 (113 * n + 2) (nI (i + 1))) 39 0 (113 * n + (3 + i)) (nI u) = r2 at k1 k3 k4 ⊢
  have fc2 : FS [5, 30] a.2 c2 := by rw [← hc2]; exact FS_wa (by decide) (by decide) (FS_wa (by decide) (by decide) (FS_refl a.2))
  have fr2 : FS [39] b.2 r2 := by rw [← hr2]; exact FS_wa (by decide) (by decide) (FS_wa (by decide) (by decide) (FS_refl b.2))
  have hL2 : LC t T p' q' c2 := LC_fs g8 fc2 (by decide)
  have hA2 := AR_fs g6 fr2 (by decide)
  refine ok2_of (ok_some rfl) (rCapF hB ⟨q, hA2, g7⟩ g8.2.1.1) (fun a' e ha he => ?_)
  obtain ⟨fl, r5, rfl, hfl, hA5, f5⟩ := he
  subst ha
  refine Or.inl ⟨_, _, _, rfl, rfl, ?_, i + 1, p', q', c2, r5, fl, rfl, by omega, rfl, rfl, hL2, AR_LR hA5 g8.2.1.2.2.1, DU_fs k1 (FS_refl _) (lxr f5 (by decide)), ?_, fun s hs => ?_, DF_tr (DF_tr hDF (DF_lx f1)) k2, FS_tr (FS_tr hFR (krr f2 (by decide))) (FS_tr (krr fr2 (by decide)) (krr f5 (by decide))), ?_⟩
  · omega
  · rw [FSa f5 0 _ (by decide) (by decide)]; exact k3
  · rw [FSa f5 0 _ (by decide) (by decide), k4 s hs, e39, hS s hs]
  · rcases hfl with ⟨w3, w4⟩ | ⟨w3, w4⟩
    · exact Or.inl ⟨w3, Or.inr w4⟩
    · exact Or.inr ⟨w3, by omega, w4⟩
end LX
