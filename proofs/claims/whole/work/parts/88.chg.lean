/-! change -/
theorem qInm {v : Int32} {mm : zM} : fX10_in v (-1) 25 mm = some (if v = -1 ∨ zin v 26 = true then 1 else 0) := by
  unfold fX10_in
  by_cases h0 : v = -1
  · rw [if_pos (Or.inl h0), h0]; decide
  by_cases h1 : zin v 26 = true
  · obtain ⟨j, hj, rfl, hj2⟩ := zin_e h1
    rw [if_pos (Or.inr h1), if_neg (fun q => by
      rw [Int32.lt_iff_toInt_lt, nI_toInt (by omega), show (-1 : Int32).toInt = -1 by decide] at q
      omega), show (25 : Int32) = nI 25 from rfl, if_neg (fun q => by have := (nIlt (by omega) (by omega)).mp q; omega)]
  · rw [if_neg (show ¬ (v = -1 ∨ zin v 26 = true) from fun q => q.elim h0 h1)]
    by_cases h2 : v < 0
    · have h3 : v < -1 := by
        rw [Int32.lt_iff_toInt_lt] at h2 ⊢
        rw [show (-1 : Int32).toInt = -1 by decide]
        rw [show (0 : Int32).toInt = 0 by decide] at h2
        have : v.toInt ≠ -1 := fun q => h0 (Int32.toInt_inj.mp (by rw [q]; decide))
        omega
      rw [if_pos h3]
    · obtain ⟨j, hj, rfl⟩ := nI_of h2
      have : ¬ j < 26 := fun q => h1 (zin_n q (by omega))
      have h3 : ¬ nI j < -1 := fun q => by
        rw [Int32.lt_iff_toInt_lt, nI_toInt (by omega), show (-1 : Int32).toInt = -1 by decide] at q
        omega
      rw [if_neg h3, show (25 : Int32) = nI 25 from rfl, if_pos ((nIlt (by omega) (by omega)).mpr (by omega))]
theorem pX7_set {N k m e : Nat} {to : Int32} {mm : zM} (hk : k < 4) (hm : m < 26) (he : gi mm 31 N k = nI e) (h1 : ¬ gi mm 34 N (26 * k + m) = nI m → 1 ≤ e) : ok (fX7_setLetterThere N (nI k) (nI m) to mm) (fun m' => ((∀ i s, gi m' 31 i s = if i = N ∧ s = k then nI (if gi mm 34 N (26 * k + m) = nI m then (if to = nI m then e else e + 1) else (if to = nI m then e - 1 else e)) else gi mm 31 i s) ∧ ∀ i s, gi m' 34 i s = if i = N ∧ s = 26 * k + m then to else gi mm 34 i s) ∧ FS [31, 34] mm m') := by
  refine ok_fr ?_ (frX7_setLetterThere (ks := [31, 34]) (fun k h => h) (FS_refl mm))
  unfold fX7_setLetterThere
  rw [show nI k * 26 + nI m = nI (26 * k + m) by rw [l26, pk_mul, nI_add, Nat.mul_comm]]
  refine ok_zob (zin_n (by omega) (by omega)) ?_
  rw [zn_n (by omega)]
  unfold fX7_setLetterThere_J29 fX7_setLetterThere_J44
  rw [zn_n (by omega), zn_n (by omega), he]
  by_cases q1 : gi mm 34 N (26 * k + m) = nI m
  · rw [if_pos q1, if_pos q1]
    by_cases q2 : to = nI m
    · rw [if_pos q2, if_pos q2]
      refine ok_zob (zin_n (by omega) (by omega)) (ok_some ⟨fun i s => ?_, fun i s => ?_⟩)
      · rw [gi_wi, if_neg (by omega)]
        by_cases z : i = N ∧ s = k
        · rw [if_pos z, z.1, z.2, he]
        · rw [if_neg z]
      · rw [gi_wi]; simp
    · rw [if_neg q2, if_neg q2, nI_1]
      refine ok_zob (zin_n (by omega) (by omega)) (ok_zob (zin_n (by omega) (by omega)) (ok_zob (zin_n (by omega) (by omega)) (ok_some ⟨fun i s => ?_, fun i s => ?_⟩)))
      · rw [gi_wi, if_neg (by omega), gi_wi]; simp
      · rw [gi_wi, gi_wi, if_neg (show ¬ (34 = 31 ∧ i = N ∧ s = k) by omega)]; simp
  · rw [if_neg q1, if_neg q1]
    have h1' := h1 q1
    have ek : ∀ v, gi (wi mm 31 N k v) 31 N k = v := fun v => by rw [gi_wi, if_pos ⟨rfl, rfl, rfl⟩]
    rw [l1, pk_sub (by omega), ek, nI_add, show e - 1 + 1 = e by omega]
    by_cases q2 : to = nI m
    · rw [if_pos q2, if_pos q2]
      refine ok_zob (zin_n (by omega) (by omega)) (ok_zob (zin_n (by omega) (by omega)) (ok_zob (zin_n (by omega) (by omega)) (ok_some ⟨fun i s => ?_, fun i s => ?_⟩)))
      · rw [gi_wi, if_neg (by omega), gi_wi]; simp
      · rw [gi_wi, gi_wi, if_neg (show ¬ (34 = 31 ∧ i = N ∧ s = k) by omega)]; simp
    · rw [if_neg q2, if_neg q2]
      refine ok_zob (zin_n (by omega) (by omega)) (ok_zob (zin_n (by omega) (by omega)) (ok_zob (zin_n (by omega) (by omega)) (ok_zob (zin_n (by omega) (by omega)) (ok_zob (zin_n (by omega) (by omega)) (ok_some ⟨fun i s => ?_, fun i s => ?_⟩)))))
      · rw [gi_wi, if_neg (by omega), gi_wi]
        by_cases z : i = N ∧ s = k
        · rw [if_pos ⟨rfl, z⟩, if_pos z]
        · rw [if_neg (fun y => z y.2), if_neg z, gi_wi, if_neg (fun y => z y.2)]
      · rw [gi_wi, gi_wi, if_neg (show ¬ (34 = 31 ∧ i = N ∧ s = k) by omega), gi_wi, if_neg (show ¬ (34 = 31 ∧ i = N ∧ s = k) by omega)]; simp
theorem US_one {u k : Nat} {c r c' r' : Nat → Int32} (h : US u c r) (r7 : r' 7 = r 7) (c8 : c' 8 = c 8) (hU : U1 u k c' r') (hr : ∀ s, 8 ≤ s → s < 64 → (s < 8 + 14 * k ∨ 22 + 14 * k ≤ s) → r' s = r s) (hc : ∀ j, j < 4 → j ≠ k → c' (9 + j) = c (9 + j) ∧ c' (13 + j) = c (13 + j)) (hl : ∀ j, j < 104 → (j < 26 * k ∨ 26 * k + 26 ≤ j) → c' (147 + j) = c (147 + j)) : US u c' r' := by
  refine ⟨by rw [r7]; exact h.1, by rw [r7, c8]; exact h.2.1, fun j hj => ?_⟩
  rw [r7] at hj
  have h4 := h.lt hj
  by_cases e : j = k
  · subst e; exact hU
  · exact U1_cg (h.2.2 j hj) (fun s h1 h2 => hr s (by omega) (by omega) (by omega)) (hc j h4 e).1 (hc j h4 e).2 (fun m hm => hl _ (by omega) (by omega))
def CSt (N k m e' : Nat) (to : Int32) (c1 c2 : zM) : Prop := ((∀ i s, gi c2 31 i s = if i = N ∧ s = k then nI e' else gi c1 31 i s) ∧ ∀ i s, gi c2 34 i s = if i = N ∧ s = 26 * k + m then to else gi c1 34 i s) ∧ FS [31, 34] c1 c2
section CH
variable {t w d n a b h nx x k m e p i0 e' : Nat} {to : Int32} {c r c1 r1 c2 r2 : zM}
theorem chg_fin (hT : TPI t c r) (hW : WLI w d n c r) (hS : SHI a b c r) (hH : HII w n h nx c r) (hx : x < n) (hC : BC w x n nx h c c1) (hR : BR h r r1) (hk4 : k < 4) (hM : CSt (12 * w + x) k m e' to c1 c2) (hm : m < 26) (g2 : FS [38] r1 r2) (gs : ∀ s, s < 113 * x + (9 + 14 * k) ∨ 113 * x + (22 + 14 * k) ≤ s → gi r2 38 0 s = gi r 38 0 s)
    (hU : (∀ s, s = 9 + k ∨ (147 ≤ s ∧ s < 251 ∧ s ≠ 147 + (26 * k + m)) → uC c2 (12 * w + x) s = uC c (12 * w + x) s) → uC c2 (12 * w + x) (13 + k) = nI e' → uC c2 (12 * w + x) (147 + (26 * k + m)) = to → U1 x k (uC c2 (12 * w + x)) (rR r2 38 0 x)) : INV c2 r2 := by
  obtain ⟨⟨q4, q5⟩, qf⟩ := hM
  have hw := hW.2.2.1
  have h12 := hW.n12
  have hu1 : uC c1 (12 * w + x) = uC c (12 * w + x) := by rw [hC.1.1, if_neg (by omega)]
  have er : ∀ s, gi r1 38 0 s = gi r 38 0 s := fun s => FSa hR.2 0 _ (by decide) (by decide)
  have f5 : ∀ i s, gi c2 5 i s = gi c1 5 i s := fun i s => FSa qf i s (by decide) (by decide)
  have f30 : ∀ i s, gi c2 30 i s = gi c1 30 i s := fun i s => FSa qf i s (by decide) (by decide)
  have c34 : ∀ j, j < 104 → j ≠ 26 * k + m → uC c2 (12 * w + x) (147 + j) = uC c (12 * w + x) (147 + j) := fun j hj hne => by
    rw [uC_lt hj, q5, if_neg (fun z => hne z.2), ← uC_lt hj, hu1]
  have c9 : ∀ j, j < 4 → uC c2 (12 * w + x) (9 + j) = uC c (12 * w + x) (9 + j) := fun j hj => by
    rw [uC_ui hj, f30, ← uC_ui hj, hu1]
  have c7 : rR r2 38 0 x 7 = rR r 38 0 x 7 := by rw [rR_0 (by omega), rR_0 (by omega), gs _ (by omega)]
  have hU' := hU (fun s hs => by
    rcases hs with q | ⟨q1, q2, q3⟩
    · rw [q]; exact c9 k hk4
    · rw [show s = 147 + (s - 147) by omega]; exact c34 _ (by omega) (by omega)) (by rw [uC_ch hk4, q4, if_pos ⟨rfl, rfl⟩]) (by rw [uC_lt (by omega), q5, if_pos ⟨rfl, rfl⟩])
  refine INV_use hT hW hS hH hx hC hR (FS_mono (zss (by decide)) qf) (fun i _ => f5 i 1) (fun i s _ => f30 i s) (fun i s hi => by rw [q4, if_neg (fun z => hi z.1)]) (fun i s hi => by rw [q5, if_neg (fun z => hi z.1)]) g2 (fun s hs => by rw [gs s (by omega), er]) ?_ (fun j hj => ?_)
  · refine US_one (k := k) (hW.US hx) c7 ?_ hU' (fun s h1 h2 h3 => ?_) (fun j hj hne => ⟨c9 j hj, ?_⟩) (fun j h1 h2 => c34 j h1 (by omega))
    · rw [uC_us, f5, ← uC_us, hu1]
    · rw [rR_0 (by omega), gs _ (by omega), ← rR_0 (by omega)]
    · rw [uC_ch hj, q4, if_neg (by omega), ← uC_ch hj, hu1]
  · rw [c7] at hj
    have hj4 := (hW.US hx).lt hj
    have e8 : rR r2 38 0 x (8 + 14 * j) = rR r 38 0 x (8 + 14 * j) := by
      by_cases z : j = k
      · rw [rR_0 (by omega), rR_0 (by omega), gs _ (by omega)]
      · rw [rR_0 (by omega), rR_0 (by omega), gs _ (by omega)]
    rw [e8]
    exact (hW.2.2.2.2.2.2.2.2 x hx).2.2 j hj
end CH
theorem call_change (v1 v2 v3 v4 : Int32) : CALL (fX9_change v1 v2 v3 v4) (fX10_change v1 v2 v3 v4) := fun c r hI => by
  obtain ⟨t, w, d, n, a, b, h, nx, hT, hW, hS, hH, hF⟩ := id hI
  have h12 := hW.n12
  have hw := hW.2.2.1
  unfold fX9_change fX10_change
  simp only [hW.1, hW.cUn, hW.rUn, Option.bind_some, pX9_isLetter, qIn26, qInm]
  by_cases t1 : zin v1 n = true
  rotate_left
  · rw [if_neg t1]; exact ok2_some ⟨rfl, hI⟩
  rw [if_pos t1, if_neg n10, if_neg n10]
  by_cases t2 : zin v3 26 = true
  rotate_left
  · rw [if_neg t2]; exact ok2_some ⟨rfl, hI⟩
  rw [if_pos t2, if_neg n10, if_neg n10]
  by_cases t3 : v4 = -1 ∨ zin v4 26 = true
  rotate_left
  · have t3' : ¬ v4 = -1 := fun q => t3 (Or.inl q)
    have t3'' : ¬ zin v4 26 = true := fun q => t3 (Or.inr q)
    rw [if_neg t3, if_neg t3', if_neg t3'', if_pos rfl, if_pos rfl]
    exact ok2_some ⟨rfl, hI⟩
  have e34 : (if v4 = -1 then fX9_change_J34 v1 v2 v3 v4 c else if (if zin v4 26 = true then (1 : Int32) else 0) = 0 then some (-1, c) else fX9_change_J34 v1 v2 v3 v4 c) = fX9_change_J34 v1 v2 v3 v4 c := by
    by_cases q : v4 = -1
    · rw [if_pos q]
    · rw [if_neg q, if_pos (t3.resolve_left q), if_neg n10]
  rw [if_pos t3, if_neg n10, e34]
  obtain ⟨x, hx, rfl, hx3⟩ := zin_e t1
  obtain ⟨m, hm, rfl, hm3⟩ := zin_e t2
  unfold fX9_change_J34
  rw [hW.1, Option.bind_some]
  refine ok2_zl (zin_n (by omega) (by omega)) ?_
  rw [zn_n hx3]
  obtain ⟨p, p4, pc, pr, pk⟩ := hW.use hx
  rw [pX5_placeOf pc p4, Option.bind_some, qUseOf (by omega) pr p4, Option.bind_some, zfd_cg (g := fun k => gi r 38 0 (113 * x + (8 + 14 * k))) (fun k hk => (pk k hk).1)]
  cases hz : zfd (fun k => gi r 38 0 (113 * x + (8 + 14 * k))) v2 p with
  | none =>
    rw [if_pos (show zfx none = -1 from rfl), if_pos (show zfx none = -1 from rfl)]
    exact ok2_some ⟨rfl, hI⟩
  | some k =>
    have hk := (zfd_some hz).1
    obtain ⟨-, -, ⟨e, e6, ec, ere⟩, pb⟩ := pk k hk
    rw [if_neg (zfx_some (by omega)), if_neg (zfx_some (by omega)), Option.bind_some, show zfx (some k) = nI k from rfl, pX7_letterThere (by omega) hm, Option.bind_some, pb m hm, qUseAt, Option.bind_some, qBecomesIn (by omega) (by omega) ere e6, Option.bind_some]
    refine ok2_if Iff.rfl (fun _ _ => ok2_some ⟨rfl, hI⟩) (fun hne _ => ?_)
    rw [qChangeAt (by omega) (by omega) ere e6, Option.bind_some]
    obtain ⟨u1, u2, u3, u4, u5, u6, u7⟩ := (hW.US hx).2.2 k (by rw [rR_0 (by omega), pr, zn_n (by omega)]; exact hk)
    have ez : rR r 38 0 x (9 + 14 * k) = nI e := by rw [rR_0 (by omega)]; exact ere
    rw [ez, zn_n (by omega)] at u5
    have ezf : zfd (fun i => rR r 38 0 x (10 + 14 * k + 2 * i)) (nI m) e = zfd (fun i => gi r 38 0 (113 * x + (10 + 14 * k + 2 * i))) (nI m) e := zfd_cg (fun i hi => rR_0 (by omega))
    have hB : becR (fun s => gi r 38 0 (113 * x + s)) k m = match zfd (fun i => gi r 38 0 (113 * x + (10 + 14 * k + 2 * i))) (nI m) e with | none => nI m | some i => gi r 38 0 (113 * x + (11 + 14 * k + 2 * i)) := by
      unfold becR
      show (match zfd (fun i => gi r 38 0 (113 * x + (10 + 14 * k + 2 * i))) (nI m) (zn (gi r 38 0 (113 * x + (9 + 14 * k)))) with | none => nI m | some i => gi r 38 0 (113 * x + (11 + 14 * k + 2 * i))) = _
      rw [ere, zn_n (by omega)]
    have hu1' : ∀ c1, BC w x n nx h c c1 → uC c1 (12 * w + x) = uC c (12 * w + x) := fun c1 hC => by rw [hC.1.1, if_neg (by omega)]
    have ec1 : ∀ c1, BC w x n nx h c c1 → gi c1 31 (12 * w + x) k = nI e := fun c1 hC => by rw [← uC_ch (by omega), hu1' c1 hC, uC_ch (by omega)]; exact ec
    have el1 : ∀ c1, BC w x n nx h c c1 → gi c1 34 (12 * w + x) (26 * k + m) = becR (fun s => gi r 38 0 (113 * x + s)) k m := fun c1 hC => by rw [← uC_lt (by omega), hu1' c1 hC, uC_lt (by omega)]; exact pb m hm
    have er : ∀ r1, BR h r r1 → ∀ s, gi r1 38 0 s = gi r 38 0 s := fun r1 hR s => FSa hR.2 0 _ (by decide) (by decide)
    cases hc : zfd (fun i => gi r 38 0 (113 * x + (10 + 14 * k + 2 * i))) (nI m) e with
    | none =>
      rw [hc] at hB
      dsimp only at hB
      rw [hB] at hne
      rw [hB, if_pos rfl, if_pos rfl, nI_1, zn_n (by omega), ec, zn_n (by omega), show 113 * x + (8 + 14 * k) + 1 = 113 * x + (9 + 14 * k) by omega, ere, l6]
      refine ok2_zl (zin_n (by omega) (by omega)) (ok2_zr (zin_n (by omega) (by omega)) ?_)
      by_cases he : e = 6
      · rw [if_neg (fun z => by have := (nIlt (by omega) (by omega)).mp z; omega), if_pos (by rw [he])]
        exact ok2_some ⟨rfl, hI⟩
      rw [if_pos ((nIlt (by omega) (by omega)).mpr (by omega)), if_neg (fun z => he ((nIeq (by omega) (by omega)).mp z))]
      unfold fX9_change_J106 fX10_change_J106
      refine ok2_l (pX9_beginAct (t := t) hW hH hx) (fun c1 hC => ?_)
      refine ok2_r (qKeepsPast hH.2.2.2.1 hH.1) (fun r1 hR => ?_)
      have el := el1 c1 hC
      rw [hB] at el
      refine ok2_l (pX7_set (to := v4) (by omega) hm (ec1 c1 hC) (fun z => absurd el z)) (fun c2 hc2 => ?_)
      rw [if_pos el, if_neg (fun z => hne z.symm)] at hc2
      have er1 : gi r1 38 0 (113 * x + (9 + 14 * k)) = nI e := by rw [er r1 hR]; exact ere
      rw [if_neg (fun z => hne z.symm), if_pos rfl, nI_1, zn_n (by omega), show 113 * x + (8 + 14 * k) + 1 = 113 * x + (9 + 14 * k) by omega, zn_n (by omega), er1, nI_1, l2, nI_add, pk_mul, nI_add]
      unfold fX10_change_J221
      rw [nI_1, nI_1, zn_n (by omega), zn_n (by omega), zn_n (by omega)]
      refine ok2_zl (zin_n (by omega) (by omega)) (ok2_zr (zin_n (by omega) (by omega)) (ok2_zr (zin_n (by omega) (by omega)) (ok2_zr (zin_n (by omega) (by omega)) (ok2_zr (zin_n (by omega) (by omega)) (ok2_zr (zin_n (by omega) (by omega)) (ok2_zr (zin_n (by omega) (by omega)) (ok2_some ⟨?_, ?_⟩)))))))
      · show gi c2 31 (12 * w + x) k = _
        rw [hc2.1.1, if_pos ⟨rfl, rfl⟩, gi_wi, if_neg (by omega), gi_wi, if_neg (by omega), gi_wi, if_pos ⟨rfl, rfl, by omega⟩]
      · refine chg_fin (k := k) (m := m) (e' := e + 1) (to := v4) hT hW hS hH hx hC hR (by omega) hc2 hm (FS_wa (by decide) (by decide) (FS_wa (by decide) (by decide) (FS_wa (by decide) (by decide) (FS_refl r1)))) (fun s hs => ?_) (fun g1 g2 g3 => ?_)
        · rw [gi_wi, if_neg (by omega), gi_wi, if_neg (by omega), gi_wi, if_neg (by omega), er r1 hR]
        · refine U1_new (to := v4) (n := e) ⟨u1, u2, u3, u4, by rw [ez, zn_n (by omega)]; exact u5, u6, u7⟩ ez (by omega) (by rw [ezf]; exact hc) hm t3 (fun z => hne z.symm) ?_ ?_ ?_ ?_ (fun i hi => ⟨?_, ?_⟩) (g1 _ (by omega)) g2 g3 (fun m' hm' hne' => g1 _ (by omega))
          · rw [rR_0 (by omega), gi_wi, if_neg (by omega), gi_wi, if_neg (by omega), gi_wi, if_neg (by omega), er r1 hR, ← rR_0 (by omega)]
          · rw [rR_0 (by omega), gi_wi, if_neg (by omega), gi_wi, if_neg (by omega), gi_wi, if_pos ⟨rfl, rfl, by omega⟩]
          · rw [rR_0 (by omega), gi_wi, if_neg (by omega), gi_wi, if_pos ⟨rfl, rfl, by omega⟩]
          · rw [rR_0 (by omega), gi_wi, if_pos ⟨rfl, rfl, by omega⟩]
          · rw [rR_0 (by omega), gi_wi, if_neg (by omega), gi_wi, if_neg (by omega), gi_wi, if_neg (by omega), er r1 hR, ← rR_0 (by omega)]
          · rw [rR_0 (by omega), gi_wi, if_neg (by omega), gi_wi, if_neg (by omega), gi_wi, if_neg (by omega), er r1 hR, ← rR_0 (by omega)]
    | some i0 =>
      rw [hc] at hB
      dsimp only at hB
      obtain ⟨c1', c2', -⟩ := zfd_some hc
      have c2'' : gi r 38 0 (113 * x + (10 + 14 * k + 2 * i0)) = nI m := c2'
      have hBm : ¬ becR (fun s => gi r 38 0 (113 * x + s)) k m = nI m := by
        have := (u5 i0 c1').2.2
        rw [rR_0 (by omega), rR_0 (by omega)] at this
        rw [hB, ← c2'']
        exact this
      rw [if_neg hBm]
      show ok2 _ (if nI (113 * x + (10 + 14 * k + 2 * i0)) = -1 then _ else fX10_change_J106 (nI m) v4 (nI (113 * x + (8 + 14 * k))) (nI (113 * x + (10 + 14 * k + 2 * i0))) r) _
      rw [if_neg (nIm1 (by omega))]
      unfold fX9_change_J106 fX10_change_J106
      refine ok2_l (pX9_beginAct (t := t) hW hH hx) (fun c1 hC => ?_)
      refine ok2_r (qKeepsPast hH.2.2.2.1 hH.1) (fun r1 hR => ?_)
      have el := el1 c1 hC
      have eln : ¬ gi c1 34 (12 * w + x) (26 * k + m) = nI m := by rw [el]; exact hBm
      refine ok2_l (pX7_set (to := v4) (by omega) hm (ec1 c1 hC) (fun z => by omega)) (fun c2 hc2 => ?_)
      rw [if_neg eln] at hc2
      have er1 : gi r1 38 0 (113 * x + (9 + 14 * k)) = nI e := by rw [er r1 hR]; exact ere
      refine ok2_zl (zin_n (by omega) (by omega)) ?_
      rw [zn_n (by omega)]
      by_cases hto : v4 = nI m
      · rw [if_pos hto]
        rw [if_pos hto] at hc2
        refine ok2_r (P := fun o' => ∃ m', o' = Sum.inl m' ∧ (∀ s, gi m' 38 0 s = if 113 * x + (10 + 14 * k + 2 * i0) ≤ s ∧ s < 113 * x + (8 + 14 * k + 2 * e) then gi r1 38 0 (s + 2) else gi r1 38 0 s) ∧ FS [38] r1 m') ?_ (fun o' ho' => ?_)
        · refine ok_for (fun i s => s.1 = nI i ∧ (∀ s', gi s.2 38 0 s' = if 113 * x + (10 + 14 * k + 2 * i0) ≤ s' ∧ s' < i then gi r1 38 0 (s' + 2) else gi r1 38 0 s') ∧ FS [38] r1 s.2) (a := 113 * x + (10 + 14 * k + 2 * i0)) (b := 113 * x + (8 + 14 * k + 2 * e)) (by omega) (by unfold zF; omega) ⟨rfl, fun s => ?_, FS_refl r1⟩ (fun i s hi1 hi hI2 => ?_) (fun s hI2 => ?_)
          · rw [if_neg (by omega)]
          · obtain ⟨s1, m'⟩ := s
            obtain ⟨h1, h2, h3⟩ := hI2
            dsimp only at h1 h2 h3
            subst h1
            unfold fX10_change_L120
            dsimp only
            have e2 : gi m' 38 0 (113 * x + (9 + 14 * k)) = nI e := by rw [h2, if_neg (by omega)]; exact er1
            rw [nI_1, zn_n (by omega), show 113 * x + (8 + 14 * k) + 1 = 113 * x + (9 + 14 * k) by omega, e2, l2, pk_mul, nI_add, nI_add, nI_1, zn_n (by omega), zn_n (by omega)]
            refine ok_zob (zin_n (by omega) (by omega)) (ok_f (fun q => by have := (nIle (by omega) (by omega)).mp q; omega) (ok_zob (zin_n (by omega) (by omega)) (ok_zob (zin_n (by omega) (by omega)) (ok_some (Or.inl ⟨_, rfl, rfl, fun s' => ?_, FS_wa (by decide) (by decide) h3⟩)))))
            dsimp only
            rw [gi_wi]
            by_cases z : 38 = 38 ∧ 0 = 0 ∧ s' = i
            · rw [if_pos z, if_pos (by omega), h2, if_neg (by omega), z.2.2]
            · rw [if_neg z, h2]
              by_cases z2 : 113 * x + (10 + 14 * k + 2 * i0) ≤ s' ∧ s' < i
              · rw [if_pos z2, if_pos (by omega)]
              · rw [if_neg z2, if_neg (by omega)]
          · obtain ⟨s1, m'⟩ := s
            obtain ⟨h1, h2, h3⟩ := hI2
            dsimp only at h1 h2 h3
            subst h1
            unfold fX10_change_L120
            dsimp only
            have e2 : gi m' 38 0 (113 * x + (9 + 14 * k)) = nI e := by rw [h2, if_neg (by omega)]; exact er1
            rw [nI_1, zn_n (by omega), show 113 * x + (8 + 14 * k) + 1 = 113 * x + (9 + 14 * k) by omega, e2, l2, pk_mul, nI_add]
            exact ok_zob (zin_n (by omega) (by omega)) (ok_t ((nIle (by omega) (by omega)).mpr (by omega)) (ok_some ⟨_, rfl, m', rfl, h2, h3⟩))
        · obtain ⟨y, rfl, hy, fy⟩ := ho'
          have ey : gi y 38 0 (113 * x + (9 + 14 * k)) = nI e := by rw [hy, if_neg (by omega)]; exact er1
          show ok2 _ (zob (zin (nI (113 * x + (8 + 14 * k)) + 1) 1357) (zob (zin (nI (113 * x + (8 + 14 * k)) + 1) 1357) (zob (zin (nI (113 * x + (8 + 14 * k)) + 1) 1357) (some (gi (wi y 38 0 (zn (nI (113 * x + (8 + 14 * k)) + 1)) (gi y 38 0 (zn (nI (113 * x + (8 + 14 * k)) + 1)) - 1)) 38 0 (zn (nI (113 * x + (8 + 14 * k)) + 1)), wi y 38 0 (zn (nI (113 * x + (8 + 14 * k)) + 1)) (gi y 38 0 (zn (nI (113 * x + (8 + 14 * k)) + 1)) - 1)))))) _
          rw [nI_1, zn_n (by omega), show 113 * x + (8 + 14 * k) + 1 = 113 * x + (9 + 14 * k) by omega, ey, l1, pk_sub (by omega)]
          refine ok2_zr (zin_n (by omega) (by omega)) (ok2_zr (zin_n (by omega) (by omega)) (ok2_zr (zin_n (by omega) (by omega)) (ok2_some ⟨?_, ?_⟩)))
          · show gi c2 31 (12 * w + x) k = gi (wi y 38 0 (113 * x + (9 + 14 * k)) (nI (e - 1))) 38 0 (113 * x + (9 + 14 * k))
            rw [hc2.1.1, if_pos ⟨rfl, rfl⟩, gi_wi, if_pos ⟨rfl, rfl, rfl⟩]
          · refine chg_fin (k := k) (m := m) (e' := e - 1) (to := v4) hT hW hS hH hx hC hR (by omega) hc2 hm (FS_wa (by decide) (by decide) fy) (fun s hs => ?_) (fun g1 g2 g3 => ?_)
            · rw [gi_wi, if_neg (by omega), hy, if_neg (by omega), er r1 hR]
            · refine U1_del (n := e) (i0 := i0) ⟨u1, u2, u3, u4, by rw [ez, zn_n (by omega)]; exact u5, u6, u7⟩ ez e6 (by rw [ezf]; exact hc) hm ?_ ?_ (fun i hi => ?_) (g1 _ (by omega)) g2 (by rw [g3, hto]) (fun m' hm' hne' => g1 _ (by omega))
              · rw [rR_0 (by omega), gi_wi, if_neg (by omega), hy, if_neg (by omega), er r1 hR, ← rR_0 (by omega)]
              · rw [rR_0 (by omega), gi_wi, if_pos ⟨rfl, rfl, by omega⟩]
              · by_cases z : i < i0
                · rw [if_pos z, rR_0 (by omega), rR_0 (by omega), rR_0 (by omega), rR_0 (by omega), gi_wi, if_neg (by omega), gi_wi, if_neg (by omega), hy, hy, if_neg (by omega), if_neg (by omega), er r1 hR, er r1 hR]
                  exact ⟨rfl, rfl⟩
                · rw [if_neg z, rR_0 (by omega), rR_0 (by omega), rR_0 (by omega), rR_0 (by omega), gi_wi, if_neg (by omega), gi_wi, if_neg (by omega), hy, hy, if_pos (by omega), if_pos (by omega), er r1 hR, er r1 hR, show 113 * x + (10 + 14 * k + 2 * i) + 2 = 113 * x + (10 + 14 * k + 2 * (i + 1)) by omega, show 113 * x + (11 + 14 * k + 2 * i) + 2 = 113 * x + (11 + 14 * k + 2 * (i + 1)) by omega]
                  exact ⟨rfl, rfl⟩
      · rw [if_neg hto, if_neg (nIm1 (by omega))]
        rw [if_neg hto] at hc2
        unfold fX10_change_J221
        rw [nI_1, nI_1, zn_n (by omega), zn_n (by omega), zn_n (by omega)]
        refine ok2_zr (zin_n (by omega) (by omega)) (ok2_zr (zin_n (by omega) (by omega)) (ok2_zr (zin_n (by omega) (by omega)) (ok2_some ⟨?_, ?_⟩)))
        · show gi c2 31 (12 * w + x) k = _
          rw [hc2.1.1, if_pos ⟨rfl, rfl⟩, gi_wi, if_neg (by omega), gi_wi, if_neg (by omega), show 113 * x + (8 + 14 * k) + 1 = 113 * x + (9 + 14 * k) by omega, er1]
        · refine chg_fin (k := k) (m := m) (e' := e) (to := v4) hT hW hS hH hx hC hR (by omega) hc2 hm (FS_wa (by decide) (by decide) (FS_wa (by decide) (by decide) (FS_refl r1))) (fun s hs => ?_) (fun g1 g2 g3 => ?_)
          · rw [gi_wi, if_neg (by omega), gi_wi, if_neg (by omega), er r1 hR]
          · refine U1_set (n := e) (i0 := i0) ⟨u1, u2, u3, u4, by rw [ez, zn_n (by omega)]; exact u5, u6, u7⟩ ez e6 (by rw [ezf]; exact hc) hm t3 hto ?_ ?_ (fun i hi => ?_) ?_ (fun i hi hne' => ?_) (g1 _ (by omega)) g2 g3 (fun m' hm' hne' => g1 _ (by omega))
            · rw [rR_0 (by omega), gi_wi, if_neg (by omega), gi_wi, if_neg (by omega), er r1 hR, ← rR_0 (by omega)]
            · rw [rR_0 (by omega), gi_wi, if_neg (by omega), gi_wi, if_neg (by omega)]; exact er1
            · rw [rR_0 (by omega), gi_wi, if_neg (by omega), gi_wi]
              by_cases z : i = i0
              · subst z
                rw [if_pos ⟨rfl, rfl, rfl⟩, rR_0 (by omega), c2'']
              · rw [if_neg (by omega), er r1 hR, ← rR_0 (by omega)]
            · rw [rR_0 (by omega), gi_wi, if_pos ⟨rfl, rfl, by omega⟩]
            · rw [rR_0 (by omega), gi_wi, if_neg (by omega), gi_wi, if_neg (by omega), er r1 hR, ← rR_0 (by omega)]
