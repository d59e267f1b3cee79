/-! all is laid out: 'settle' and 'lays' -/
def zit {σ ε ρ : Type} (L : σ → Option (σ ⊕ (ε ⊕ ρ))) : Nat → σ → σ → Prop
  | 0, s, t => s = t
  | n + 1, s, t => ∃ m, zit L n s m ∧ L m = some (.inl t)
theorem zit_loop {σ ε ρ : Type} {L : σ → Option (σ ⊕ (ε ⊕ ρ))} : ∀ (n f : Nat) (s t : σ), zit L n s t → zloop L (n + f) s = zloop L f t
  | 0, f, s, t, h => by
    have : s = t := h
    rw [this, Nat.zero_add]
  | n + 1, f, s, t, h => by
    obtain ⟨m, h1, h2⟩ := h
    rw [show n + 1 + f = n + (f + 1) by omega, zit_loop n (f + 1) s m h1, zloop_n h2]
theorem lays_all {w d n : Nat} {c0 cs r : zM} (hW0 : WLI w d n c0 r) (hWs : WLI w d n cs r) (h11 : ∀ i, i < 312 → gi c0 11 0 i = 0) : ok2 (zloop (fX2_mergeAll_L2 w) zF (0, cs)) (zloop fX10_lays__L2 zF (0, r)) (fun e e' => ∃ d' r' ch, e = Sum.inl d' ∧ e' = Sum.inl r' ∧ (∀ v, v < n → RLj d' r' v) ∧ (∀ v, v < n → OVv d' (fun u => rR r 38 0 u) v) ∧ zit (fX0_layAll_L10 w) n (0, c0) (nI n, ch) ∧ QF n n ch r' ∧ FS [11, 12, 13] c0 ch ∧ FS [17, 18, 20, 21, 22, 24, 25, 26, 27, 1209] cs d' ∧ FS [44, 45, 46, 47, 48, 49, 50, 51] r r') := by
  have h12 := hW0.n12
  refine ok2_for (fun u s t => s.1 = nI u ∧ t.1 = nI u ∧ (∀ v, v < u → RLj s.2 t.2 v) ∧ (∀ v, v < u → OVv s.2 (fun u => rR r 38 0 u) v) ∧ (∃ ch, zit (fX0_layAll_L10 w) u (0, c0) (nI u, ch) ∧ QF n u ch t.2 ∧ FS [11, 12, 13] c0 ch) ∧ FS [17, 18, 20, 21, 22, 24, 25, 26, 27, 1209] cs s.2 ∧ FS [44, 45, 46, 47, 48, 49, 50, 51] r t.2) (a := 0) (b := n) (by omega) (by unfold zF; omega) (by unfold zF; omega) ⟨rfl, rfl, fun v hv => by omega, fun v hv => by omega, ⟨c0, rfl, ⟨fun i hi => by omega, fun i _ hi => h11 i hi⟩, FS_refl c0⟩, FS_refl cs, FS_refl r⟩ (fun u s t _ hu hI => ?_) (fun s t hI => ?_)
  · obtain ⟨s1, cc⟩ := s
    obtain ⟨t1, rr⟩ := t
    obtain ⟨h1, h2, h3, h4, ⟨ch, h5, h6, h7⟩, h8, h9⟩ := hI
    dsimp only at h1 h2 h3 h4 h6 h8 h9
    subst h1; subst h2
    have hWh : WLI w d n ch rr := WLI_fs hW0 h7 (by decide) h9 (by decide)
    obtain ⟨o, r1, e1, e2, ch', e3, g1, g2, g3⟩ := flat_unit hWh hu h6
    subst e3
    have hWc : WLI w d n cc r1 := WLI_fs hWs h8 (by decide) (FS_tr h9 (FS_mono (zss (by decide)) g3)) (by decide)
    have erw : (fun u => rR r1 38 0 u) = fun u => rR r 38 0 u := funext (fun v => rR_38 (fun s => (FSa g3 0 s (by decide) (by decide)).trans (FSa h9 0 s (by decide) (by decide))) v)
    have h3' : ∀ v, v < u → RLj cc r1 v := fun v hv => by
      obtain ⟨L, K, m1, m2, m3, m4, m5, m6, m7, m8⟩ := h3 v hv
      have rg : ∀ k s, zisf k = false → k ∉ [44] → gi r1 k 0 s = gi rr k 0 s := fun k s hf hk => FSa g3 0 s hf hk
      exact ⟨L, K, m1, m2, m3, by rw [rg _ _ (by decide) (by decide)]; exact m4, fun i hi => by rw [rg _ _ (by decide) (by decide)]; exact m5 i hi, m6, by rw [rg _ _ (by decide) (by decide)]; exact m7, fun i hi => by rw [rg _ _ (by decide) (by decide)]; exact m8 i hi⟩
    have hr : fX10_lays__L2 (nI u, rr) = (fX10_isTrait (nI u) r1).bind (fun x2 => if x2 = 0 then ((fX10_laysLine (nI u) r1).bind (fun x3 => some (Sum.inl (nI u + 1, x3) : (Int32 × zM) ⊕ (zM ⊕ Empty)))) else (zob (zin (nI u) 12) (zob (zin (nI u) 12) (some (Sum.inl (nI u + 1, wi (wi r1 46 0 (zn (nI u)) 0) 48 0 (zn (nI u)) 0)))))) := by
      unfold fX10_lays__L2
      dsimp only
      rw [n1356, hWh.2.2.2.2.2.2.1, if_neg (fun q => by have := (nIle (by omega) (by omega)).mp q; omega), e2, Option.bind_some]
    rw [hr]
    obtain ⟨o2, o3, e4, e5, c2, r2, rfl, rfl, k1, k2, k3, k4⟩ := line_unit hWc hu erw h3' h4
    rw [e4, e5]
    refine ok2_some (Or.inl ⟨_, _, rfl, rfl, rfl, rfl, k1, k2, ⟨ch', ⟨_, h5, e1⟩, ⟨fun i hi => ?_, g1.2⟩, FS_tr h7 g2⟩, FS_tr h8 k3, FS_tr h9 (FS_tr (FS_mono (zss (by decide)) g3) (FS_mono (zss (by decide)) k4))⟩)
    exact RC_cg (g1.1 i hi) rfl rfl rfl (fun s _ _ => FSa k4 0 s (by decide) (by decide)) (fun s => FSa k4 0 s (by decide) (by decide))
  · obtain ⟨s1, cc⟩ := s
    obtain ⟨t1, rr⟩ := t
    obtain ⟨h1, h2, h3, h4, ⟨ch, h5, h6, h7⟩, h8, h9⟩ := hI
    dsimp only at h1 h2 h3 h4 h6 h8 h9
    subst h1; subst h2
    have hWc : WLI w d n cc rr := WLI_fs hWs h8 (by decide) h9 (by decide)
    unfold fX2_mergeAll_L2 fX10_lays__L2
    dsimp only
    rw [n1356, hWc.2.2.2.2.2.2.1, hWc.2.2.2.2.2.1, if_pos (Int32.le_refl _), if_pos (Int32.le_refl _)]
    exact ok2_some ⟨_, _, rfl, rfl, cc, rr, ch, rfl, rfl, h3, h4, h5, h6, h7, h8, h9⟩
theorem pJ7_fill_11 {c : zM} : ok (fJ7_fill_11 0 c) (fun c' => (∀ i, i < 312 → gi c' 11 0 i = 0) ∧ FS [11] c c') := by
  refine ok_fr ?_ (frJ7_fill_11 (ks := [11]) (fun k h => h) (FS_refl c))
  unfold fJ7_fill_11
  refine ok_bind (P := fun o => ∃ c', o = Sum.inl c' ∧ ∀ i, i < 312 → gi c' 11 0 i = 0) ?_ (fun o ho => ?_)
  · refine ok_for (fun i s => s.1 = nI i ∧ ∀ j, j < i → gi s.2 11 0 j = 0) (a := 0) (b := 312) (by omega) (by unfold zF; omega) ⟨rfl, fun j hj => by omega⟩ (fun i s _ hi hI => ?_) (fun s hI => ?_)
    · obtain ⟨s1, m⟩ := s
      obtain ⟨h1, h2⟩ := hI
      dsimp only at h1 h2
      subst h1
      unfold fJ7_fill_11_L5
      dsimp only
      rw [show (312 : Int32) = nI 312 from rfl, zo _ (by omega) (by omega), zn_n (by omega), nI_1]
      refine ok_f (fun q => by have := (nIle (by omega) (by omega)).mp q; omega) (ok_some (Or.inl ⟨_, rfl, rfl, fun j hj => ?_⟩))
      dsimp only
      rw [gi_wi]
      by_cases e : j = i
      · rw [if_pos ⟨rfl, rfl, e⟩]
      · rw [if_neg (by omega)]; exact h2 j (by omega)
    · obtain ⟨s1, m⟩ := s
      obtain ⟨h1, h2⟩ := hI
      dsimp only at h1 h2
      subst h1
      unfold fJ7_fill_11_L5
      dsimp only
      exact ok_t (Int32.le_refl _) (ok_some ⟨_, rfl, m, rfl, h2⟩)
  · obtain ⟨c', rfl, h⟩ := ho
    exact ok_some h
def cSet (c : zM) : Option zM := (gr c 9 2).bind (fun j1 => (fX0_layAll j1 c).bind (fun x2 => (gr x2 9 2).bind (fun j3 => (fX2_mergeAll j3 x2).bind (fun x4 => some ((wi x4 9 0 12 0))))))
theorem settleB {w d n : Nat} {c r : zM} (hW : WLI w d n c r) : ok2 (cSet c) (fX10_lays_ r) (fun c' r' => RFL n c' r' ∧ OVR n c' r ∧ gi c' 9 0 12 = 0 ∧ FS [11, 12, 13, 17, 18, 20, 21, 22, 24, 25, 26, 27, 1209, 1912] c c' ∧ FS [44, 45, 46, 47, 48, 49, 50, 51] r r') := by
  have h12 := hW.n12
  obtain ⟨c0, e0, h0, f0⟩ := pJ7_fill_11 (c := c)
  have hW0 : WLI w d n c0 r := WLI_fs hW f0 (by decide) (FS_refl (ks := []) r) (by decide)
  obtain ⟨-, -, -, -, -, -, ch, -, -, -, -, z1, -, z3, -⟩ := lays_all hW0 hW0 h0
  have hWh : WLI w d n ch r := WLI_fs hW0 z3 (by decide) (FS_refl (ks := []) r) (by decide)
  obtain ⟨o1, o2, e1, e2, d', r', ch', rfl, rfl, k1, k2, k3, k4, k5, k6, k7⟩ := lays_all hW0 hWh h0
  have hend : ∀ x, WLI w d n x r → zit (fX0_layAll_L10 w) n (0, c0) (nI n, x) → fX0_layAll w c = some x := fun x hx hz => by
    unfold fX0_layAll
    rw [e0, Option.bind_some, show zF = n + (20000 - n - 1 + 1) by unfold zF; omega, zit_loop _ _ _ _ hz, zloop_e (e := Sum.inl x) (by
      unfold fX0_layAll_L10
      dsimp only
      rw [hx.2.2.2.2.2.1, if_pos (Int32.le_refl _)])]
    rfl
  have hl := hend ch hWh z1
  have hWh' : WLI w d n ch' r := WLI_fs hW0 k5 (by decide) (FS_refl (ks := []) r) (by decide)
  have ech : ch' = ch := Option.some.inj ((hend ch' hWh' k3).symm.trans hl)
  subst ech
  have er : fX10_lays_ r = some r' := by
    unfold fX10_lays_
    rw [e2]
    rfl
  have ed : fX2_mergeAll w ch' = some d' := by
    unfold fX2_mergeAll
    rw [e1]
    rfl
  unfold cSet
  rw [hW.1, Option.bind_some, hl, Option.bind_some, hWh'.1, Option.bind_some, ed, Option.bind_some, er]
  refine ok2_some ⟨⟨fun u m hu hm => ?_, fun u hu => ?_⟩, fun u hu hk => ?_, ?_, ?_, k7⟩
  · have := k4.1 (26 * u + m) (by omega)
    exact RC_cg this (by rw [gi_wi, if_neg (by omega), FSa k6 _ _ (by decide) (by decide)]) (by rw [gi_wi, if_neg (by omega), FSa k6 _ _ (by decide) (by decide)]) (by rw [gi_wi, if_neg (by omega), FSa k6 _ _ (by decide) (by decide)]) (fun s _ _ => rfl) (fun s => rfl)
  · obtain ⟨L, K, m1, m2, m3, m4, m5, m6, m7, m8⟩ := k1 u hu
    refine ⟨L, K, m1, m2, by rw [gi_wi, if_neg (by omega)]; exact m3, m4, fun i hi => ?_, by rw [gi_wi, if_neg (by omega)]; exact m6, m7, fun i hi => by rw [gi_wi, if_neg (by omega)]; exact m8 i hi⟩
    obtain ⟨t, t1, t2, t3⟩ := m5 i hi
    exact ⟨t, by omega, by rw [gi_wi, if_neg (by omega)]; exact t2, t3⟩
  · obtain ⟨b, b1, b2, b3⟩ := k2 u hu hk
    exact ⟨b, b1, by rw [gi_wi, if_neg (by omega)]; exact b2, b3⟩
  · rw [gi_wi, if_pos ⟨rfl, rfl, rfl⟩]
  · exact FS_wf (by decide) (by decide) (FS_tr (FS_mono (zss (by decide)) f0) (FS_tr (FS_mono (zss (by decide)) k5) (FS_mono (zss (by decide)) k6)))
theorem WLI_r {w d n : Nat} {c r r2 : zM} (h : WLI w d n c r) (e : gi r2 38 0 1356 = nI n) (hR : RelW n (fun u => uC c (12 * w + u)) (fun u => rR r2 38 0 u)) : WLI w d n c r2 := ⟨h.1, h.2.1, h.2.2.1, h.2.2.2.1, h.2.2.2.2.1, h.2.2.2.2.2.1, e, hR⟩
/-- the class is settled: then it is laid out as the reference will lay it -/
def SET (c' r r' : zM) : Prop := ∃ w d n, WLI w d n c' r ∧ RFL n c' r' ∧ OVR n c' r
theorem settle_ok {c r : zM} (hI : INV c r) : ok (fX9_settle c) (fun c' => INV c' r ∧ ∃ w d n, WLI w d n c' r ∧ FLV c' w n) := by
  obtain ⟨t, w, d, n, a, b, h, nx, hT, hW, hS, hH, hF⟩ := id hI
  unfold fX9_settle
  rcases hF with q | ⟨q, hF⟩
  · refine ok_f (by rw [q]; decide) ?_
    show ok (cSet c) _
    obtain ⟨c', r', e1, e2, k1, k2, k3, k4, k5⟩ := settleB hW
    have hu : ∀ q, uC c' q = uC c q := fun q => uC_fs k4 (by decide) q
    have hWc : WLI w d n c' r := WLI_fs hW k4 (by decide) (FS_refl (ks := []) r) (by decide)
    have hFv : FLV c' w n := fun r2 g1 g2 => by
      have hW2 : WLI w d n c r2 := WLI_r hW g1 (RelW_cg g2 (fun u _ => (hu _).symm) (fun u _ => rfl))
      obtain ⟨c2, r3, f1, f2, j1, j2, j3, j4, j5⟩ := settleB hW2
      have : c2 = c' := Option.some.inj (f1.symm.trans e1)
      subst this
      exact ⟨⟨r3, f2, j1⟩, j2⟩
    have g : ∀ k i s, zisf k = false → k ∉ [11, 12, 13, 17, 18, 20, 21, 22, 24, 25, 26, 27, 1209, 1912] → gi c' k i s = gi c k i s := fun k i s hf hk => FSa k4 i s hf hk
    refine ⟨c', e1, ⟨t, w, d, n, a, b, h, nx, ?_, hWc, ?_, ?_, Or.inr ⟨k3, hFv⟩⟩, w, d, n, hWc, hFv⟩
    · exact ⟨hT.1, by rw [FSf k4 0 (by decide) (by decide)]; exact hT.2.1, hT.2.2.1, fun i hi => by rw [g 36 0 i (by decide) (by decide)]; exact hT.2.2.2 i hi⟩
    · obtain ⟨s1, s2, s3, s4, s5, s6, s7⟩ := hS
      refine ⟨s1, s2, by rw [FSf k4 0 (by decide) (by decide)]; exact s3, s4, s5, fun q => ?_, fun q => ?_⟩
      · obtain ⟨n', q1, q2, q3⟩ := s6 q
        exact ⟨n', by rw [g 8 _ 1 (by decide) (by decide)]; exact q1, q2, RelW_cg q3 (fun u _ => hu _) (fun u _ => rfl)⟩
      · obtain ⟨n', q1, q2, q3⟩ := s7 q
        exact ⟨n', by rw [g 8 _ 1 (by decide) (by decide)]; exact q1, q2, RelW_cg q3 (fun u _ => hu _) (fun u _ => rfl)⟩
    · obtain ⟨p1, p2, p3, p4, p5, W, p6, p7⟩ := hH
      refine ⟨p1, p2, by rw [FSf k4 0 (by decide) (by decide)]; exact p3, p4, by rw [FSf k4 0 (by decide) (by decide)]; exact p5, W, fun u hun => by rw [hu]; exact p6 u hun, fun j hj => ?_⟩
      obtain ⟨x, x1, x2, x3, x4⟩ := p7 j hj
      exact ⟨x, x1, by rw [g 15 0 _ (by decide) (by decide)]; exact x2, fun u hun => by rw [hu]; exact x3 u hun, x4⟩
  · exact ok_t q (ok_some ⟨hI, w, d, n, hW, hF⟩)
/-- both lay out -/
theorem lay2 {c r : zM} (hI : INV c r) : ok2 (fX9_settle c) (fX10_lays_ r) (fun c' r' => INV c' r' ∧ ∃ w d n, WLI w d n c' r' ∧ RFL n c' r' ∧ OVR n c' r') := by
  obtain ⟨c', e1, hI', w, d, n, hW, hF⟩ := settle_ok hI
  obtain ⟨⟨r', e2, hR⟩, hO⟩ := hF r hW.2.2.2.2.2.2.1 hW.2.2.2.2.2.2.2
  have f := frX10_lays_ (ks := [44, 45, 46, 47, 48, 49, 50, 51]) (fun k h => h) (FS_refl r) r' e2
  have hW' : WLI w d n c' r' := WLI_fs hW (FS_refl (ks := []) c') (by decide) f (by decide)
  obtain ⟨⟨r'', e3, -⟩, hO'⟩ := hF r' hW'.2.2.2.2.2.2.1 hW'.2.2.2.2.2.2.2
  exact ⟨c', r', e1, e2, INV_r hI' f (rel_no (by decide)), w, d, n, hW', hR, hO'⟩
