/-! use -/
theorem uC_use {m m' : zM} {N : Nat} (f : FS [5, 30, 31, 34] m m') (h5 : ∀ i, i ≠ 2 * N + 1 → gi m' 5 i 1 = gi m 5 i 1) (h30 : ∀ i s, i ≠ 2 * N + 1 → gi m' 30 i s = gi m 30 i s) (h31 : ∀ i s, i ≠ N → gi m' 31 i s = gi m 31 i s) (h34 : ∀ i s, i ≠ N → gi m' 34 i s = gi m 34 i s) : (∀ q, q ≠ N → uC m' q = uC m q) ∧ ∀ s, s < 8 ∨ (17 ≤ s ∧ s < 147) → uC m' N s = uC m N s := by
  have g : ∀ k i s, zisf k = false → k ∉ [5, 30, 31, 34] → gi m' k i s = gi m k i s := fun k i s hf hk => FSa f i s hf hk
  refine ⟨fun q hq => ?_, fun s hs => ?_⟩
  · exact uC_cg (fun s _ => g 7 _ s (by decide) (by decide)) (h5 _ (by omega)) (fun s _ => h30 _ s (by omega)) (h5 _ (by omega)) (fun s _ => h30 _ s (by omega)) (fun s _ => h31 _ s hq) (fun s _ => g 32 _ s (by decide) (by decide)) (fun s _ => g 33 _ s (by decide) (by decide)) (fun s _ => h34 _ s hq)
  · have h : s < 251 := by omega
    rw [uC_adr h, uC_adr h]
    rcases u9 s N with a | a | a | a | a | a | a | a | a
    · rw [a.2.1]; exact g 7 _ _ (by decide) (by decide)
    · rw [a.2.1, a.2.2.1, a.2.2.2]; exact h5 _ (by omega)
    · rw [a.2.2.1, a.2.2.2.1]; exact h30 _ _ (by omega)
    · omega
    · omega
    · omega
    · rw [a.2.2.1]; exact g 32 _ _ (by decide) (by decide)
    · rw [a.2.2.1]; exact g 33 _ _ (by decide) (by decide)
    · omega
/-- an act that changes the uses alone -/
theorem INV_use {t w d n a b h nx x : Nat} {c r c1 r1 c2 r2 : zM} (hT : TPI t c r) (hW : WLI w d n c r) (hS : SHI a b c r) (hH : HII w n h nx c r) (hx : x < n) (hC : BC w x n nx h c c1) (hR : BR h r r1)
    (f2 : FS [5, 30, 31, 34] c1 c2) (h5 : ∀ i, i ≠ 2 * (12 * w + x) + 1 → gi c2 5 i 1 = gi c1 5 i 1) (h30 : ∀ i s, i ≠ 2 * (12 * w + x) + 1 → gi c2 30 i s = gi c1 30 i s) (h31 : ∀ i s, i ≠ 12 * w + x → gi c2 31 i s = gi c1 31 i s) (h34 : ∀ i s, i ≠ 12 * w + x → gi c2 34 i s = gi c1 34 i s) (g2 : FS [38] r1 r2) (gs : ∀ s, s < 113 * x + 7 ∨ 113 * x + 64 ≤ s → gi r2 38 0 s = gi r1 38 0 s) (hO : US x (uC c2 (12 * w + x)) (rR r2 38 0 x)) (hu : ∀ k, k < zn (rR r2 38 0 x 7) → rR r 38 0 (zn (rR r2 38 0 x (8 + 14 * k))) 0 = 1) : INV c2 r2 := by
  have hw := hW.2.2.1
  have h12 := hW.n12
  have hu1 : uC c1 (12 * w + x) = uC c (12 * w + x) := by rw [hC.1.1, if_neg (by omega)]
  have er : rR r1 38 0 x = rR r 38 0 x := rR_cg (fun s _ => FSa hR.2 0 _ (by decide) (by decide))
  obtain ⟨u1, u2⟩ := uC_use f2 h5 h30 h31 h34
  rw [hu1] at u2
  have hRU := hW.ru hx
  have rs : ∀ s, s < 113 → (s < 7 ∨ 64 ≤ s) → rR r2 38 0 x s = rR r 38 0 x s := fun s h1 h2 => by
    rw [← er, rR_0 (by omega), rR_0 (by omega)]
    exact gs _ (by omega)
  refine INV_act hT hW hS hH hx hC hR u1 (FS_mono (zss (by decide)) f2) (fun u hu hne => ?_) g2 (gs _ (by omega)) ⟨⟨?_, ?_, ?_, ?_⟩, ?_, hO, ?_⟩ (rs 0 (by omega) (by omega)) (fun k hk => ?_) hu
  · exact rR_cg (fun s hs => by rw [Nat.zero_add]; exact gs _ (by omega))
  · rw [rs 0 (by omega) (by omega)]; exact hRU.1.1
  · rw [rs 0 (by omega) (by omega), u2 0 (by omega)]; exact hRU.1.2.1
  · rw [rs 1 (by omega) (by omega)]; exact hRU.1.2.2.1
  · rw [rs 1 (by omega) (by omega), u2 1 (by omega)]; exact hRU.1.2.2.2
  · exact PS_cg hRU.2.1 (fun s h1 h2 => rs s (by omega) (by omega)) (fun s h1 h2 => u2 s (by omega))
  · exact OS_cg hRU.2.2.2 (fun s h1 h2 => rs s (by omega) (by omega)) (u2 2 (by omega)) (fun s h1 h2 => u2 s (by omega))
  · rw [rs 2 (by omega) (by omega)] at hk
    have hk4 := hRU.2.1.lt hk
    rw [rs _ (by omega) (by omega)]
    exact (hW.2.2.2.2.2.2.2.2 x hx).2.1 k hk
/-- uses of a unit -/
theorem WLI.use {w d n : Nat} {c r : zM} (h : WLI w d n c r) {x : Nat} (hx : x < n) : ∃ p, p ≤ 4 ∧ gi c 5 (2 * (12 * w + x) + 1) 1 = nI p ∧ gi r 38 0 (113 * x + 7) = nI p ∧ ∀ k, k < p → gi c 30 (2 * (12 * w + x) + 1) k = gi r 38 0 (113 * x + (8 + 14 * k)) ∧ (∃ q, q < x ∧ gi r 38 0 (113 * x + (8 + 14 * k)) = nI q ∧ gi r 38 0 (113 * q) = 1) ∧ (∃ e, e ≤ 6 ∧ gi c 31 (12 * w + x) k = nI e ∧ gi r 38 0 (113 * x + (9 + 14 * k)) = nI e) ∧ ∀ m, m < 26 → gi c 34 (12 * w + x) (26 * k + m) = becR (fun s => gi r 38 0 (113 * x + s)) k m := by
  obtain ⟨h1, h2, h3⟩ := (h.ru hx).2.2.1
  have hty := (h.2.2.2.2.2.2.2.2 x hx).2.2
  obtain ⟨p, p1, p2, p3⟩ := zin_e h1
  have e2 : rR r 38 0 x 7 = gi r 38 0 (113 * x + 7) := rR_0 (by omega)
  rw [p2, zn_n p3] at h3
  rw [show (fun u => rR r 38 0 u) x 7 = nI p from p2, zn_n p3] at hty
  refine ⟨p, by omega, by rw [← uC_us, h2]; exact p2, by rw [← e2]; exact p2, fun k hk => ?_⟩
  obtain ⟨a1, a2, a3, a4, a5, a6, a7⟩ := h3 k hk
  have e3 : rR r 38 0 x (8 + 14 * k) = gi r 38 0 (113 * x + (8 + 14 * k)) := rR_0 (by omega)
  have e9 : rR r 38 0 x (9 + 14 * k) = gi r 38 0 (113 * x + (9 + 14 * k)) := rR_0 (by omega)
  rw [uC_ui (by omega), e3] at a2
  obtain ⟨e, e4, e5, e6⟩ := zin_e a3
  refine ⟨a2, ?_, ⟨e, by omega, by rw [← uC_ch (by omega), a4]; exact e5, by rw [← e9]; exact e5⟩, fun m hm => ?_⟩
  · rw [e3] at a1
    obtain ⟨q, q1, q2, q3⟩ := zin_e a1
    refine ⟨q, q1, q2, ?_⟩
    have := hty k hk
    have e4 : (fun u => rR r 38 0 u) x (8 + 14 * k) = nI q := by show rR r 38 0 x (8 + 14 * k) = _; rw [e3]; exact q2
    rw [e4, zn_n q3] at this
    have e5 : rR r 38 0 q 0 = gi r 38 0 (113 * q) := by rw [rR_0 (by omega)]; rfl
    rw [← e5]
    exact this
  · have := a7 m hm
    rw [uC_lt (by omega)] at this
    rw [this]
    refine becR_cg e9 (fun i hi => ?_)
    have hi' : i < e := by
      have hi2 : i < zn (gi r 38 0 (113 * x + (9 + 14 * k))) := hi
      rw [← e9, e5, zn_n e6] at hi2
      exact hi2
    exact ⟨rR_0 (by omega), rR_0 (by omega)⟩
theorem WLI.US {w d n : Nat} {c r : zM} (h : WLI w d n c r) {x : Nat} (hx : x < n) : US x (uC c (12 * w + x)) (rR r 38 0 x) := (h.ru hx).2.2.1
theorem pX7_addTrait {N p : Nat} {v : Int32} {mm : zM} (hn : gi mm 5 (2 * N + 1) 1 = nI p) (h4 : p < 4) : ok (fX7_addTrait N v mm) (fun m' => (gi m' 5 (2 * N + 1) 1 = nI (p + 1) ∧ (∀ i, i ≠ 2 * N + 1 → gi m' 5 i 1 = gi mm 5 i 1) ∧ (∀ i s, gi m' 30 i s = if i = 2 * N + 1 ∧ s = p then v else gi mm 30 i s) ∧ (∀ i s, gi m' 31 i s = if i = N ∧ s = p then 0 else gi mm 31 i s) ∧ ∀ i s, gi m' 34 i s = if i = N ∧ 26 * p ≤ s ∧ s < 26 * p + 26 then nI (s - 26 * p) else gi mm 34 i s) ∧ FS [5, 30, 31, 34] mm m') := by
  refine ok_fr ?_ (frX7_addTrait (ks := [5, 30, 31, 34]) (fun k h => h) (FS_refl mm))
  unfold fX7_addTrait
  rw [hn, l4]
  refine ok_t ((nIlt (by omega) (by omega)).mpr h4) ?_
  rw [pX5_add hn h4, Option.bind_some]
  refine ok_zob (zin_n h4 (by omega)) ?_
  rw [zn_n (by omega)]
  refine ok_bind (P := fun o => ∃ m', o = Sum.inl m' ∧ gi m' 5 (2 * N + 1) 1 = nI (p + 1) ∧ (∀ i, i ≠ 2 * N + 1 → gi m' 5 i 1 = gi mm 5 i 1) ∧ (∀ i s, gi m' 30 i s = if i = 2 * N + 1 ∧ s = p then v else gi mm 30 i s) ∧ (∀ i s, gi m' 31 i s = if i = N ∧ s = p then 0 else gi mm 31 i s) ∧ ∀ i s, gi m' 34 i s = if i = N ∧ 26 * p ≤ s ∧ s < 26 * p + 26 then nI (s - 26 * p) else gi mm 34 i s) ?_ (fun o ho => ?_)
  · refine ok_for (fun i s => s.1 = nI i ∧ gi s.2 5 (2 * N + 1) 1 = nI (p + 1) ∧ (∀ i, i ≠ 2 * N + 1 → gi s.2 5 i 1 = gi mm 5 i 1) ∧ (∀ i s', gi s.2 30 i s' = if i = 2 * N + 1 ∧ s' = p then v else gi mm 30 i s') ∧ (∀ i s', gi s.2 31 i s' = if i = N ∧ s' = p then 0 else gi mm 31 i s') ∧ ∀ j s', gi s.2 34 j s' = if j = N ∧ 26 * p ≤ s' ∧ s' < 26 * p + i then nI (s' - 26 * p) else gi mm 34 j s') (a := 0) (b := 26) (by omega) (by unfold zF; omega) ⟨rfl, ?_, fun i hi => ?_, fun i s => ?_, fun i s => ?_, fun i s => ?_⟩ (fun i s _ hi hI => ?_) (fun s hI => ?_)
    · dsimp only
      rw [gi_wi, if_neg (by omega), gi_wi, if_pos ⟨rfl, rfl, rfl⟩]
    · dsimp only
      rw [gi_wi, if_neg (by omega), gi_wi, if_neg (by omega), gi_wi, if_neg (by omega)]
    · dsimp only
      rw [gi_wi, if_neg (by omega), gi_wi, if_neg (by omega), gi_wi]
      simp
    · dsimp only
      rw [gi_wi, gi_wi, if_neg (show ¬ (31 = 5 ∧ i = 2 * N + 1 ∧ s = 1) by omega), gi_wi, if_neg (show ¬ (31 = 30 ∧ i = 2 * N + 1 ∧ s = p) by omega)]
      simp
    · dsimp only
      rw [gi_wi, if_neg (by omega), gi_wi, if_neg (by omega), gi_wi, if_neg (by omega), if_neg (by omega)]
    · obtain ⟨s1, m⟩ := s
      obtain ⟨h1, h2, h3, h5, h6, h7⟩ := hI
      dsimp only at h1 h2 h3 h5 h6 h7
      subst h1
      unfold fX7_addTrait_L31
      dsimp only
      rw [l26]
      refine ok_f (fun q => by have := (nIle (by omega) (by omega)).mp q; omega) ?_
      rw [pk_mul, nI_add]
      refine ok_zob (zin_n (by omega) (by omega)) ?_
      rw [zn_n (by omega), nI_1]
      refine ok_some (Or.inl ⟨_, rfl, rfl, ?_, fun j hj => ?_, fun j s' => ?_, fun j s' => ?_, fun j s' => ?_⟩)
      · dsimp only
        rw [gi_wi, if_neg (by omega)]; exact h2
      · dsimp only
        rw [gi_wi, if_neg (by omega)]; exact h3 j hj
      · dsimp only
        rw [gi_wi, if_neg (by omega)]; exact h5 j s'
      · dsimp only
        rw [gi_wi, if_neg (by omega)]; exact h6 j s'
      · dsimp only
        rw [gi_wi]
        by_cases e : 34 = 34 ∧ j = N ∧ s' = p * 26 + i
        · rw [if_pos e, if_pos ⟨e.2.1, by omega, by omega⟩, show s' - 26 * p = i by omega]
        · rw [if_neg e, h7]
          by_cases e2 : j = N ∧ 26 * p ≤ s' ∧ s' < 26 * p + i
          · rw [if_pos e2, if_pos ⟨e2.1, e2.2.1, by omega⟩]
          · rw [if_neg e2, if_neg (fun q => e ⟨rfl, q.1, by omega⟩)]
    · obtain ⟨s1, m⟩ := s
      obtain ⟨h1, h2⟩ := hI
      dsimp only at h1 h2
      subst h1
      unfold fX7_addTrait_L31
      dsimp only
      rw [l26]
      exact ok_t (Int32.le_refl _) (ok_some ⟨_, rfl, m, rfl, h2⟩)
  · obtain ⟨m', rfl, h⟩ := ho
    exact ok_some h
theorem call_use (v1 v2 : Int32) : CALL (fX9_use v1 v2) (fX10_use v1 v2) := fun c r hI => by
  obtain ⟨t, w, d, n, a, b, h, nx, hT, hW, hS, hH, hF⟩ := id hI
  have h12 := hW.n12
  have hw := hW.2.2.1
  unfold fX9_use fX10_use
  simp only [hW.1, hW.cUn, hW.rUn, hW.cTr, Option.bind_some]
  by_cases t1 : zin v1 n = true
  rotate_left
  · rw [if_neg t1]; exact ok2_some ⟨rfl, hI⟩
  rw [if_pos t1, if_neg n10, if_neg n10]
  by_cases t2 : zin v2 n = true
  rotate_left
  · rw [if_neg (show ¬ (zin v2 n = true ∧ gi r 38 0 (113 * zn v2) = 1) from fun q => t2 q.1), if_neg t2]; exact ok2_some ⟨rfl, hI⟩
  rw [if_pos t2, if_neg n10]
  obtain ⟨x, hx, rfl, hx3⟩ := zin_e t1
  obtain ⟨q, hq, rfl, hq3⟩ := zin_e t2
  rw [zn_n hq3, qIsTrait (by omega), Option.bind_some]
  by_cases t4 : gi r 38 0 (113 * q) = 1
  rotate_left
  · rw [if_neg (show ¬ (zin (nI q) n = true ∧ gi r 38 0 (113 * q) = 1) from fun z => t4 z.2), if_neg t4]; exact ok2_some ⟨rfl, hI⟩
  rw [if_pos (show zin (nI q) n = true ∧ gi r 38 0 (113 * q) = 1 from ⟨t2, t4⟩), if_pos t4, if_neg n10, if_neg n10]
  refine ok2_if Iff.rfl (fun hlt _ => ?_) (fun _ _ => ok2_some ⟨rfl, hI⟩)
  have hqx : q < x := (nIlt hq3 hx3).mp hlt
  refine ok2_zl (zin_n (by omega) (by omega)) ?_
  rw [zn_n hx3]
  obtain ⟨p, p4, pc, pr, pk⟩ := hW.use hx
  rw [pX5_placeOf pc p4, Option.bind_some, qUseOf (by omega) pr p4, Option.bind_some, zfd_cg (g := fun k => gi r 38 0 (113 * x + (8 + 14 * k))) (fun k hk => (pk k hk).1)]
  cases hz : zfd (fun k => gi r 38 0 (113 * x + (8 + 14 * k))) (nI q) p with
  | some k =>
    have := (zfd_some hz).1
    rw [if_neg (zfx_some (by omega)), if_neg (zfx_some (by omega))]
    exact ok2_some ⟨rfl, hI⟩
  | none =>
    rw [if_pos (show zfx none = -1 from rfl), if_pos (show zfx none = -1 from rfl), pc, qUses (by omega), Option.bind_some, pr, l4]
    by_cases hp : p = 4
    · rw [if_neg (fun z => by have := (nIlt (by omega) (by omega)).mp z; omega), if_pos (by rw [hp])]
      exact ok2_some ⟨rfl, hI⟩
    · rw [if_pos ((nIlt (by omega) (by omega)).mpr (by omega)), if_neg (fun z => hp ((nIeq (by omega) (by omega)).mp z))]
      refine ok2_l (pX9_beginAct (t := t) hW hH hx) (fun c1 hC => ?_)
      refine ok2_r (qKeepsPast hH.2.2.2.1 hH.1) (fun r1 hR => ?_)
      have hu1 : uC c1 (12 * w + x) = uC c (12 * w + x) := by rw [hC.1.1, if_neg (by omega)]
      have pc1 : gi c1 5 (2 * (12 * w + x) + 1) 1 = nI p := by rw [← uC_us, hu1, uC_us]; exact pc
      have er : ∀ s, gi r1 38 0 s = gi r 38 0 s := fun s => FSa hR.2 0 _ (by decide) (by decide)
      have pr1 : gi r1 38 0 (113 * x + 7) = nI p := by rw [er]; exact pr
      refine ok2_l (pX7_addTrait pc1 (by omega)) (fun c2 hc2 => ?_)
      have k1 : gi (wi r1 38 0 (113 * x + (8 + 14 * p)) (nI q)) 38 0 (113 * x + 7) = nI p := by rw [gi_wi, if_neg (by omega)]; exact pr1
      have k2 : gi (wi (wi r1 38 0 (113 * x + (8 + 14 * p)) (nI q)) 38 0 (113 * x + (8 + 14 * p) + 1) 0) 38 0 (113 * x + 7) = nI p := by rw [gi_wi, if_neg (by omega)]; exact k1
      rw [qUses (by omega), Option.bind_some, pr1, qUseAt, Option.bind_some, zn_n (by omega), qUses (by omega), Option.bind_some, k1, qUseAt, Option.bind_some, nI_1, zn_n (by omega), l113, pk_mul, l7, nI_add, zn_n (by omega), k2, nI_1, qUses (by omega), Option.bind_some]
      refine ok2_zr (zin_n (by omega) (by omega)) (ok2_zr (zin_n (by omega) (by omega)) (ok2_zr (zin_n (by omega) (by omega)) (ok2_zr (zin_n (by omega) (by omega)) (ok2_some ⟨?_, ?_⟩))))
      · show gi c2 5 (2 * (12 * w + x) + 1) 1 = gi (wi (wi (wi r1 38 0 (113 * x + (8 + 14 * p)) (nI q)) 38 0 (113 * x + (8 + 14 * p) + 1) 0) 38 0 (113 * x + 7) (nI (p + 1))) 38 0 (113 * x + 7)
        rw [hc2.1.1, gi_wi, if_pos ⟨rfl, rfl, rfl⟩]
      · show INV c2 (wi (wi (wi r1 38 0 (113 * x + (8 + 14 * p)) (nI q)) 38 0 (113 * x + (8 + 14 * p) + 1) 0) 38 0 (113 * x + 7) (nI (p + 1)))
        obtain ⟨⟨q1, q2, q3, q4, q5⟩, qf⟩ := hc2
        have gs : ∀ s, s ≠ 113 * x + 7 → s ≠ 113 * x + (8 + 14 * p) → s ≠ 113 * x + (8 + 14 * p) + 1 → gi (wi (wi (wi r1 38 0 (113 * x + (8 + 14 * p)) (nI q)) 38 0 (113 * x + (8 + 14 * p) + 1) 0) 38 0 (113 * x + 7) (nI (p + 1))) 38 0 s = gi r 38 0 s := fun s z1 z2 z3 => by
          rw [gi_wi, if_neg (by omega), gi_wi, if_neg (by omega), gi_wi, if_neg (by omega), er]
        have k3 : rR (wi (wi (wi r1 38 0 (113 * x + (8 + 14 * p)) (nI q)) 38 0 (113 * x + (8 + 14 * p) + 1) 0) 38 0 (113 * x + 7) (nI (p + 1))) 38 0 x (8 + 14 * p) = nI q := by rw [rR_0 (by omega), gi_wi, if_neg (by omega), gi_wi, if_neg (by omega), gi_wi, if_pos ⟨rfl, rfl, rfl⟩]
        have e7 : rR (wi (wi (wi r1 38 0 (113 * x + (8 + 14 * p)) (nI q)) 38 0 (113 * x + (8 + 14 * p) + 1) 0) 38 0 (113 * x + 7) (nI (p + 1))) 38 0 x 7 = nI (p + 1) := by rw [rR_0 (by omega), gi_wi, if_pos ⟨rfl, rfl, rfl⟩]
        refine INV_use hT hW hS hH hx hC hR qf q2 (fun i s hi => by rw [q3, if_neg (fun z => hi z.1)]) (fun i s hi => by rw [q4, if_neg (fun z => hi z.1)]) (fun i s hi => by rw [q5, if_neg (fun z => hi z.1)]) (FS_wa (by decide) (by decide) (FS_wa (by decide) (by decide) (FS_wa (by decide) (by decide) (FS_refl r1)))) (fun s hs => by rw [gs s (by omega) (by omega) (by omega), er]) ?_ (fun k hk => ?_)
        · refine US_add (hW.US hx) (p := p) (q := q) (by rw [rR_0 (by omega)]; exact pr) (by omega) hqx (by omega) ?_ e7 ?_ k3 ?_ ?_ (fun m hm => ?_) (fun s h1 h2 => ?_) (fun k hk => ⟨?_, ?_⟩) (fun j hj => ?_)
          · rw [uC_us]; exact q1
          · rw [uC_ui (by omega), q3, if_pos ⟨rfl, rfl⟩]
          · rw [uC_ch (by omega), q4, if_pos ⟨rfl, rfl⟩]
          · rw [rR_0 (by omega), gi_wi, if_neg (by omega), gi_wi, if_pos ⟨rfl, rfl, by omega⟩]
          · rw [uC_lt (by omega), q5, if_pos ⟨rfl, by omega, by omega⟩, show 26 * p + m - 26 * p = m by omega]
          · rw [rR_0 (by omega), gs _ (by omega) (by omega) (by omega), rR_0 (by omega)]
          · rw [uC_ui (by omega), q3, if_neg (by omega), ← uC_ui (by omega), hu1]
          · rw [uC_ch (by omega), q4, if_neg (by omega), ← uC_ch (by omega), hu1]
          · rw [uC_lt (by omega), q5, if_neg (by omega), ← uC_lt (by omega), hu1]
        · rw [e7, zn_n (by omega)] at hk
          by_cases e : k = p
          · rw [e, k3, zn_n (by omega), rR_u0]; exact t4
          · obtain ⟨q', z1, z2, z3⟩ := (pk k (by omega)).2.1
            rw [rR_0 (u := x) (s := 8 + 14 * k) (by omega), gs _ (by omega) (by omega) (by omega), z2, zn_n (by omega), rR_u0]
            exact z3
