/-! own members: give, need, take -/
theorem uC_own {m m' : zM} {N : Nat} (f : FS [7, 32, 33] m m') (h7 : ∀ i s, i ≠ N ∨ s ≠ 2 → gi m' 7 i s = gi m 7 i s) (h32 : ∀ i s, i ≠ N → gi m' 32 i s = gi m 32 i s) (h33 : ∀ i s, i ≠ N → gi m' 33 i s = gi m 33 i s) : (∀ q, q ≠ N → uC m' q = uC m q) ∧ ∀ s, s ≠ 2 → s < 17 ∨ 147 ≤ s → uC m' N s = uC m N s := by
  have g : ∀ k i s, zisf k = false → k ∉ [7, 32, 33] → gi m' k i s = gi m k i s := fun k i s hf hk => FSa f i s hf hk
  refine ⟨fun q hq => ?_, fun s hs2 hs => ?_⟩
  · exact uC_cg (fun s _ => h7 _ s (Or.inl hq)) (g 5 _ _ (by decide) (by decide)) (fun s _ => g 30 _ s (by decide) (by decide)) (g 5 _ _ (by decide) (by decide)) (fun s _ => g 30 _ s (by decide) (by decide)) (fun s _ => g 31 _ s (by decide) (by decide)) (fun s _ => h32 _ s hq) (fun s _ => h33 _ s hq) (fun s _ => g 34 _ s (by decide) (by decide))
  · by_cases h : s < 251
    · rw [uC_adr h, uC_adr h]
      rcases u9 s N with a | a | a | a | a | a | a | a | a
      · rw [a.2.1, a.2.2.2]; exact h7 _ _ (Or.inr hs2)
      · rw [a.2.1]; exact g 5 _ _ (by decide) (by decide)
      · rw [a.2.2.1]; exact g 30 _ _ (by decide) (by decide)
      · rw [a.2.1]; exact g 5 _ _ (by decide) (by decide)
      · rw [a.2.2.1]; exact g 30 _ _ (by decide) (by decide)
      · rw [a.2.2.1]; exact g 31 _ _ (by decide) (by decide)
      · omega
      · omega
      · rw [a.2.1]; exact g 34 _ _ (by decide) (by decide)
    · have e : ∀ (m : zM) (n : Nat), uC m n s = 0 := fun m n => by
        unfold uC
        rw [if_neg (by omega), if_neg (by omega), if_neg (by omega), if_neg (by omega), if_neg (by omega), if_neg (by omega), if_neg (by omega), if_neg (by omega), if_neg h]
      rw [e, e]
/-- an act that changes the own members alone -/
theorem INV_own {t w d n a b h nx x : Nat} {c r c1 r1 c2 r2 : zM} (hT : TPI t c r) (hW : WLI w d n c r) (hS : SHI a b c r) (hH : HII w n h nx c r) (hx : x < n) (hC : BC w x n nx h c c1) (hR : BR h r r1)
    (f2 : FS [7, 32, 33] c1 c2) (h7 : ∀ i s, i ≠ 12 * w + x ∨ s ≠ 2 → gi c2 7 i s = gi c1 7 i s) (h32 : ∀ i s, i ≠ 12 * w + x → gi c2 32 i s = gi c1 32 i s) (h33 : ∀ i s, i ≠ 12 * w + x → gi c2 33 i s = gi c1 33 i s) (g2 : FS [38] r1 r2) (gs : ∀ s, s < 113 * x + 64 ∨ 113 * x + 113 ≤ s → gi r2 38 0 s = gi r1 38 0 s) (hO : OS (uC c2 (12 * w + x)) (rR r2 38 0 x)) : INV c2 r2 := by
  have hw := hW.2.2.1
  have h12 := hW.n12
  have hu1 : uC c1 (12 * w + x) = uC c (12 * w + x) := by rw [hC.1.1, if_neg (by omega)]
  have er : rR r1 38 0 x = rR r 38 0 x := rR_cg (fun s _ => FSa hR.2 0 _ (by decide) (by decide))
  obtain ⟨u1, u2⟩ := uC_own f2 h7 h32 h33
  rw [hu1] at u2
  have hRU := hW.ru hx
  have rs : ∀ s, s < 64 → rR r2 38 0 x s = rR r 38 0 x s := fun s h1 => by
    rw [← er, rR_0 (by omega), rR_0 (by omega)]
    exact gs _ (by omega)
  refine INV_act hT hW hS hH hx hC hR u1 (FS_mono (zss (by decide)) f2) (fun u hu hne => ?_) g2 (gs _ (by omega)) ⟨⟨?_, ?_, ?_, ?_⟩, ?_, ?_, hO⟩ (rs 0 (by omega)) (fun k hk => ?_) (fun k hk => ?_)
  · exact rR_cg (fun s hs => by rw [Nat.zero_add]; exact gs _ (by omega))
  · rw [rs 0 (by omega)]; exact hRU.1.1
  · rw [rs 0 (by omega), u2 0 (by omega) (by omega)]; exact hRU.1.2.1
  · rw [rs 1 (by omega)]; exact hRU.1.2.2.1
  · rw [rs 1 (by omega), u2 1 (by omega) (by omega)]; exact hRU.1.2.2.2
  · exact PS_cg hRU.2.1 (fun s h1 h2 => rs s (by omega)) (fun s h1 h2 => u2 s (by omega) (by omega))
  · exact US_cg hRU.2.2.1 (fun s h1 h2 => rs s (by omega)) (fun s h1 h2 => u2 s (by omega) (by omega)) (fun s h1 h2 => u2 s (by omega) (by omega))
  · rw [rs 2 (by omega)] at hk
    have hk4 := hRU.2.1.lt hk
    rw [rs _ (by omega)]
    exact (hW.2.2.2.2.2.2.2.2 x hx).2.1 k hk
  · rw [rs 7 (by omega)] at hk
    have hk4 := hRU.2.2.1.lt hk
    rw [rs _ (by omega)]
    exact (hW.2.2.2.2.2.2.2.2 x hx).2.2 k hk
/-- own members of a unit -/
theorem WLI.own {w d n : Nat} {c r : zM} (h : WLI w d n c r) {x : Nat} (hx : x < n) : ∃ o, o ≤ 8 ∧ gi c 7 (12 * w + x) 2 = nI o ∧ gi r 38 0 (113 * x + 64) = nI o ∧ (∀ m, m < 26 → (zfd (fun k => gi r 38 0 (113 * x + (65 + 6 * k))) (nI m) o = none → gi c 32 (12 * w + x) m = -1) ∧ ∀ k, zfd (fun k => gi r 38 0 (113 * x + (65 + 6 * k))) (nI m) o = some k → ∃ cn, cn ≤ 4 ∧ gi c 32 (12 * w + x) m = nI cn ∧ gi r 38 0 (113 * x + (66 + 6 * k)) = nI cn ∧ ∀ i, i < cn → gi c 33 (12 * w + x) (4 * m + i) = gi r 38 0 (113 * x + (67 + 6 * k + i)) ∧ zin (gi r 38 0 (113 * x + (67 + 6 * k + i))) 1027 = true) ∧ ∀ k, k < o → zin (gi r 38 0 (113 * x + (65 + 6 * k))) 26 = true := by
  obtain ⟨h1, h2, h3, h4, h5⟩ := (h.ru hx).2.2.2
  obtain ⟨o, o1, o2, o3⟩ := zin_e h1
  have e64 : rR r 38 0 x 64 = gi r 38 0 (113 * x + 64) := rR_0 (by omega)
  have ez : ∀ y, zfd (fun k => rR r 38 0 x (65 + 6 * k)) y o = zfd (fun k => gi r 38 0 (113 * x + (65 + 6 * k))) y o := fun y => zfd_cg (fun k hk => rR_0 (by omega))
  rw [o2, zn_n o3] at h3
  refine ⟨o, by omega, by rw [← uC_7 (by omega), h2]; exact o2, by rw [← e64]; exact o2, fun m hm => ⟨fun q => ?_, fun k q => ?_⟩, fun k hk => ?_⟩
  · have := h5 m hm
    rw [uC_tc hm] at this
    rw [this]
    unfold cntR
    rw [o2, zn_n o3, ez, q]
  · obtain ⟨k1, k2, -⟩ := zfd_some q
    have := h5 m hm
    rw [uC_tc hm] at this
    unfold cntR at this
    rw [o2, zn_n o3, ez, q] at this
    dsimp only at this
    obtain ⟨a1, a2, a3⟩ := h3 k k1
    obtain ⟨cn, c1, c2, c3⟩ := zin_e a2
    have e65 : rR r 38 0 x (65 + 6 * k) = nI m := by rw [rR_0 (by omega)]; exact k2
    rw [c2, zn_n c3, e65, zn_n (by omega)] at a3
    refine ⟨cn, by omega, by rw [this, c2], by rw [← rR_0 (by omega)]; exact c2, fun i hi => ?_⟩
    obtain ⟨b1, b2⟩ := a3 i hi
    rw [rR_0 (by omega)] at b1 b2
    rw [uC_tm (by omega)] at b2
    exact ⟨b2, b1⟩
  · have := (h3 k hk).1
    rw [rR_0 (by omega)] at this
    exact this
theorem WLI.OS {w d n : Nat} {c r : zM} (h : WLI w d n c r) {x : Nat} (hx : x < n) : OS (uC c (12 * w + x)) (rR r 38 0 x) := (h.ru hx).2.2.2
/-- what 'beginMember' and what a term make of a unit -/
theorem pX9_beginMember {t w d n h nx x m o : Nat} {c r : zM} (hW : WLI w d n c r) (hH : HII w n h nx c r) (hx : x < n) (hm : m < 26) (ho : gi c 7 (12 * w + x) 2 = nI o) (o8 : o ≤ 8) (hn : ¬ (gi c 32 (12 * w + x) m = -1 ∧ o = 8)) : ok (fX9_beginMember (nI x) (nI m) c) (fun a => a.1 = (if gi c 32 (12 * w + x) m = -1 then 0 else 1) ∧ ∃ c1, BC w x n nx h c c1 ∧ a.2 = wi (if gi c 32 (12 * w + x) m = -1 then wi c1 7 (12 * w + x) 2 (nI (o + 1)) else c1) 32 (12 * w + x) m 0) := by
  have h12 := hW.n12
  unfold fX9_beginMember
  rw [hW.1, Option.bind_some]
  refine ok_zob (zin_n (by omega) (by omega)) ?_
  rw [zn_n (by omega), pX7_tells hm, Option.bind_some, ho, l8]
  have hJ : ∀ v4 : Int32, v4 = (if gi c 32 (12 * w + x) m = -1 then 0 else 1) → ok (fX9_beginMember_J34 (nI x) (nI m) (12 * w + x) v4 c) (fun a => a.1 = (if gi c 32 (12 * w + x) m = -1 then 0 else 1) ∧ ∃ c1, BC w x n nx h c c1 ∧ a.2 = wi (if gi c 32 (12 * w + x) m = -1 then wi c1 7 (12 * w + x) 2 (nI (o + 1)) else c1) 32 (12 * w + x) m 0) := fun v4 hv4 => by
    unfold fX9_beginMember_J34
    refine ok_bind (pX9_beginAct (t := t) hW hH hx) (fun c1 hC => ?_)
    have hu1 : uC c1 (12 * w + x) = uC c (12 * w + x) := by rw [hC.1.1, if_neg (by have := hW.2.2.1; omega)]
    have e32 : gi c1 32 (12 * w + x) m = gi c 32 (12 * w + x) m := by rw [← uC_tc hm, hu1, uC_tc hm]
    have e7 : gi c1 7 (12 * w + x) 2 = nI o := by rw [← uC_7 (by omega), hu1, uC_7 (by omega)]; exact ho
    rw [pX7_require hm, Option.bind_some, e32, e7, nI_1]
    by_cases q : gi c 32 (12 * w + x) m = -1
    · rw [if_pos q] at hv4
      rw [if_pos q, if_pos hv4]
      exact ok_some ⟨by rw [if_pos q], c1, hC, by rw [if_pos q]⟩
    · rw [if_neg q] at hv4
      rw [if_neg q, if_neg (by rw [hv4]; decide)]
      exact ok_some ⟨by rw [if_neg q], c1, hC, by rw [if_neg q]⟩
  by_cases q : gi c 32 (12 * w + x) m = -1
  · rw [if_pos q]
    have : o < 8 := by
      have : o ≠ 8 := fun z => hn ⟨q, z⟩
      omega
    rw [if_pos q] at hJ
    refine ok_t rfl (ok_t ((nIlt (by omega) (by omega)).mpr this) (hJ 0 rfl))
  · rw [if_neg q]
    rw [if_neg q] at hJ
    exact ok_f n10 (hJ 1 rfl)
theorem pX9_beginMember_no {w d n x m : Nat} {c r : zM} (hW : WLI w d n c r) (hx : x < n) (hm : m < 26) (ho : gi c 7 (12 * w + x) 2 = nI 8) (hn : gi c 32 (12 * w + x) m = -1) : fX9_beginMember (nI x) (nI m) c = some (-3, c) := by
  have h12 := hW.n12
  unfold fX9_beginMember
  rw [hW.1, Option.bind_some, zob_t _ (zin_n (by omega) (by omega)), zn_n (by omega), pX7_tells hm, Option.bind_some, ho, l8, if_pos hn, if_pos rfl, if_neg (fun q => by have := (nIlt (by omega) (by omega)).mp q; omega)]
/-- what the reference makes of it -/
theorem qTells_fin {v4 v : Int32} {A : Nat} {m : zM} (hA : A + 2 < 1357) : fX10_tells_J145 v v4 (nI A) m = some (if v4 = -1 then 0 else 1, wi (wi m 38 0 (A + 1) (if v = -1 then 0 else 1)) 38 0 (A + 2) (if v = -1 then 0 else v)) := by
  unfold fX10_tells_J145 fX10_tells_J163 fX10_tells_J182 fX10_tells_J194 fX10_truth
  rw [nI_1, l2, nI_add, zn_n (by omega), zn_n (by omega)]
  by_cases h1 : v = -1
  · rw [if_pos h1, zo _ (by omega) (by omega), if_pos h1, zo _ (by omega) (by omega), if_pos h1]
    by_cases h2 : v4 = -1
    · rw [if_pos h2, if_pos h2, if_pos rfl, if_pos h1]; rfl
    · rw [if_neg h2, if_neg h2, if_neg n10, if_pos h1]; rfl
  · rw [if_neg h1, zo _ (by omega) (by omega), if_neg h1, zo _ (by omega) (by omega), if_neg h1]
    by_cases h2 : v4 = -1
    · rw [if_pos h2, if_pos h2, if_pos rfl, if_neg h1]; rfl
    · rw [if_neg h2, if_neg h2, if_neg n10, if_neg h1]; rfl
