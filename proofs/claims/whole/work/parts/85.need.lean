/-! give and need, both sides -/
section TL
variable {w d n h nx x m o k : Nat} {v : Int32} {c r r1 : zM}
theorem qTells_full (hx : x < 12) (ho : gi r 38 0 (113 * x + 64) = nI 8) (hz : zfd (fun k => gi r 38 0 (113 * x + (65 + 6 * k))) (nI m) 8 = none) : fX10_tells (nI x) (nI m) v r = some (-3, r) := by
  unfold fX10_tells
  rw [qOwnOf hx ho (by omega), Option.bind_some, hz, if_pos (show zfx none = -1 from rfl)]
  unfold fX10_tells_J24 fX10_tells_J81
  rw [if_pos (show zfx none = -1 from rfl), if_pos (show zfx none = -1 from rfl), qOwns hx, Option.bind_some, ho, l8, if_pos rfl]
theorem qTells_new (hW : WLI w d n c r) (hH : HII w n h nx c r) (hx : x < n) (ho : gi r 38 0 (113 * x + 64) = nI o) (o8 : o < 8) (hz : zfd (fun k => gi r 38 0 (113 * x + (65 + 6 * k))) (nI m) o = none) : ok (fX10_tells (nI x) (nI m) v r) (fun b => b.1 = 0 ∧ ∃ r1, BR h r r1 ∧ b.2 = wi (wi (wi (wi r1 38 0 (113 * x + 64) (nI (o + 1))) 38 0 (113 * x + (65 + 6 * o)) (nI m)) 38 0 (113 * x + (65 + 6 * o) + 1) (if v = -1 then 0 else 1)) 38 0 (113 * x + (65 + 6 * o) + 2) (if v = -1 then 0 else v)) := by
  have h12 := hW.n12
  unfold fX10_tells
  rw [qOwnOf (by omega) ho (by omega), Option.bind_some, hz, if_pos (show zfx none = -1 from rfl)]
  unfold fX10_tells_J24 fX10_tells_J81
  rw [if_pos (show zfx none = -1 from rfl), if_pos (show zfx none = -1 from rfl), qOwns (by omega), Option.bind_some, ho, l8, if_neg (fun q => by have := (nIeq (by omega) (by omega)).mp q; omega)]
  unfold fX10_tells_J100
  refine ok_bind (qKeepsPast hH.2.2.2.1 hH.1) (fun r1 hR => ?_)
  have e64 : gi r1 38 0 (113 * x + 64) = nI o := by rw [FSa hR.2 0 _ (by decide) (by decide)]; exact ho
  rw [if_pos (show zfx none = -1 from rfl), qOwns (by omega), Option.bind_some, e64, qOwnAt, Option.bind_some, l113, pk_mul, l64, nI_add, zo _ (by omega) (by omega), zo _ (by omega) (by omega), zo _ (by omega) (by omega), zn_n (by omega), zn_n (by omega), e64, nI_1, qTells_fin (by omega)]
  exact ok_some ⟨rfl, r1, hR, rfl⟩
theorem qTells_set (hW : WLI w d n c r) (hx : x < n) (ho : gi r 38 0 (113 * x + 64) = nI o) (o8 : o ≤ 8) (hz : zfd (fun k => gi r 38 0 (113 * x + (65 + 6 * k))) (nI m) o = some k) : (v = -1 → fX10_tells (nI x) (nI m) v r = if gi r 38 0 (113 * x + (66 + 6 * k)) = 0 then some (-2, r) else fX10_tells_J100 (nI x) (nI m) v (nI k) (nI (113 * x + (65 + 6 * k))) r) ∧ (¬ v = -1 → fX10_tells (nI x) (nI m) v r = if gi r 38 0 (113 * x + (66 + 6 * k)) = 1 ∧ gi r 38 0 (113 * x + (67 + 6 * k)) = v then some (-2, r) else fX10_tells_J100 (nI x) (nI m) v (nI k) (nI (113 * x + (65 + 6 * k))) r) := by
  have h12 := hW.n12
  have hk := (zfd_some hz).1
  unfold fX10_tells
  rw [qOwnOf (by omega) ho (by omega), Option.bind_some, hz, if_neg (zfx_some (by omega)), show zfx (some k) = nI k from rfl, qOwnAt, Option.bind_some]
  unfold fX10_tells_J24
  rw [if_neg (nIm1 (by omega)), nI_1, zo _ (by omega) (by omega), zn_n (by omega), show nI (113 * x + (65 + 6 * k)) + 2 = nI (113 * x + (65 + 6 * k) + 2) from nI_add _ 2, zo _ (by omega) (by omega), zn_n (by omega), zo _ (by omega) (by omega)]
  unfold fX10_tells_J81
  rw [if_neg (nIm1 (by omega)), show 113 * x + (65 + 6 * k) + 1 = 113 * x + (66 + 6 * k) by omega, show 113 * x + (65 + 6 * k) + 2 = 113 * x + (67 + 6 * k) by omega]
  refine ⟨fun h1 => by rw [if_pos h1], fun h1 => ?_⟩
  rw [if_neg h1]
  by_cases h2 : gi r 38 0 (113 * x + (66 + 6 * k)) = 1
  · rw [if_pos h2]
    by_cases h3 : gi r 38 0 (113 * x + (67 + 6 * k)) = v
    · rw [if_pos h3, if_pos ⟨h2, h3⟩]
    · rw [if_neg h3, if_neg (fun q => h3 q.2)]
  · rw [if_neg h2, if_neg (fun q => h2 q.1)]
theorem qTells_go (hH : HII w n h nx c r) (hk : k < 8) (hx : x < 12) : ok (fX10_tells_J100 (nI x) (nI m) v (nI k) (nI (113 * x + (65 + 6 * k))) r) (fun b => b.1 = 1 ∧ ∃ r1, BR h r r1 ∧ b.2 = wi (wi r1 38 0 (113 * x + (65 + 6 * k) + 1) (if v = -1 then 0 else 1)) 38 0 (113 * x + (65 + 6 * k) + 2) (if v = -1 then 0 else v)) := by
  unfold fX10_tells_J100
  refine ok_bind (qKeepsPast hH.2.2.2.1 hH.1) (fun r1 hR => ?_)
  rw [if_neg (nIm1 (by omega)), qTells_fin (by omega)]
  exact ok_some ⟨if_neg (nIm1 (by omega)), r1, hR, rfl⟩
end TL
theorem WLI.own1 {w d n x nx h : Nat} {c r c1 : zM} (hW : WLI w d n c r) (hx : x < n) (hC : BC w x n nx h c c1) {o : Nat} (ho : gi c 7 (12 * w + x) 2 = nI o) : gi c1 7 (12 * w + x) 2 = nI o := by
  have h12 := hW.n12
  have hu1 : uC c1 (12 * w + x) = uC c (12 * w + x) := by rw [hC.1.1, if_neg (by have := hW.2.2.1; omega)]
  rw [← uC_7 (by omega), hu1, uC_7 (by omega)]; exact ho
theorem call_need (v1 v2 : Int32) : CALL (fX9_need v1 v2) (fX10_need v1 v2) := fun c r hI => by
  obtain ⟨t, w, d, n, a, b, h, nx, hT, hW, hS, hH, hF⟩ := id hI
  have h12 := hW.n12
  unfold fX9_need fX10_need
  simp only [hW.1, hW.cUn, hW.rUn, Option.bind_some, pX9_isLetter, qIn26]
  by_cases t1 : zin v1 n = true
  rotate_left
  · rw [if_neg t1]; exact ok2_some ⟨rfl, hI⟩
  rw [if_pos t1, if_neg n10, if_neg n10]
  by_cases t2 : zin v2 26 = true
  rotate_left
  · rw [if_neg t2]; exact ok2_some ⟨rfl, hI⟩
  rw [if_pos t2, if_neg n10, if_neg n10]
  obtain ⟨x, hx, rfl, hx3⟩ := zin_e t1
  obtain ⟨m, hm, rfl, hm3⟩ := zin_e t2
  refine ok2_zl (zin_n (by omega) (by omega)) ?_
  rw [zn_n hx3, pX7_requires hm, Option.bind_some]
  obtain ⟨o, o8, oc, or', om, ol⟩ := hW.own hx
  cases hz : zfd (fun k => gi r 38 0 (113 * x + (65 + 6 * k))) (nI m) o with
  | none =>
    have e32 := (om m hm).1 hz
    rw [e32, if_pos (by decide)]
    by_cases q : o = 8
    · subst q
      rw [pX9_beginMember_no hW hx hm oc e32, qTells_full (by omega) or' hz]
      exact ok2_some ⟨rfl, hI⟩
    · refine ok2_l (pX9_beginMember (t := t) hW hH hx hm oc o8 (fun z => q z.2)) (fun a1 ha1 => ?_)
      refine ok2_r (qTells_new hW hH hx or' (by omega) hz) (fun b1 hb1 => ?_)
      obtain ⟨a2, c1, hC, a4⟩ := ha1
      obtain ⟨b2, r1, hR, b4⟩ := hb1
      rw [if_pos e32] at a2
      refine ok2_some ⟨by rw [a2, b2], ?_⟩
      have hM := CM_need (N := 12 * w + x) (m := m) (o := o) (v := 0) (c1 := c1) (P := gi c 32 (12 * w + x) m = -1) (hW.own1 hx hC oc)
      rw [← a4, if_pos e32] at hM
      exact own_new (cn := 0) (v := 0) hT hW hS hH hx hC hR hm or' (by omega) hz hM (v' := 0) (fun q => by omega) b4
  | some k =>
    obtain ⟨cn, cn4, e32, e66, -⟩ := (om m hm).2 k hz
    have hk := (zfd_some hz).1
    rw [(qTells_set hW hx or' o8 hz).1 rfl, e66, e32, l0]
    by_cases q : cn = 0
    · subst q
      rw [if_pos rfl, if_pos rfl, if_neg (show ¬ (1 : Int32) = nI 0 by decide)]
      exact ok2_some ⟨rfl, hI⟩
    · have q' : ¬ nI cn = nI 0 := fun z => q ((nIeq (by omega) (by omega)).mp z)
      rw [if_neg q', if_neg q', if_pos (show (nI 0 : Int32) = nI 0 from rfl)]
      have ne1 : ¬ gi c 32 (12 * w + x) m = -1 := by rw [e32]; exact nIm1 (by omega)
      refine ok2_l (pX9_beginMember (t := t) hW hH hx hm oc o8 (fun z => ne1 z.1)) (fun a1 ha1 => ?_)
      refine ok2_r (qTells_go hH (by omega) (by omega)) (fun b1 hb1 => ?_)
      obtain ⟨a2, c1, hC, a4⟩ := ha1
      obtain ⟨b2, r1, hR, b4⟩ := hb1
      rw [if_neg ne1] at a2
      refine ok2_some ⟨by rw [a2, b2], ?_⟩
      have hM := CM_need (N := 12 * w + x) (m := m) (o := o) (v := 0) (c1 := c1) (P := gi c 32 (12 * w + x) m = -1) (hW.own1 hx hC oc)
      rw [← a4, if_neg ne1] at hM
      exact own_set (cn := 0) (v := 0) hT hW hS hH hx hC hR hm or' o8 hz hM (v' := 0) (fun q => by omega) b4
theorem call_give (v1 v2 v3 : Int32) : CALL (fX9_give v1 v2 v3) (fX10_give v1 v2 v3) := fun c r hI => by
  obtain ⟨t, w, d, n, a, b, h, nx, hT, hW, hS, hH, hF⟩ := id hI
  have h12 := hW.n12
  unfold fX9_give fX10_give
  simp only [hW.1, hW.cUn, hW.rUn, Option.bind_some, pX9_isLetter, qIn26, qIn1000]
  by_cases t1 : zin v1 n = true
  rotate_left
  · rw [if_neg t1]; exact ok2_some ⟨rfl, hI⟩
  rw [if_pos t1, if_neg n10, if_neg n10]
  by_cases t2 : zin v2 26 = true
  rotate_left
  · rw [if_neg t2]; exact ok2_some ⟨rfl, hI⟩
  rw [if_pos t2, if_neg n10, if_neg n10]
  by_cases t3 : zin v3 1000 = true
  rotate_left
  · rw [if_neg t3, if_pos rfl]
    by_cases h0 : v3 < 0
    · rw [if_pos h0]; exact ok2_some ⟨rfl, hI⟩
    · obtain ⟨j, hj, rfl⟩ := nI_of h0
      have : ¬ j < 1000 := fun q => t3 (zin_n q (by omega))
      rw [if_neg h0, show (999 : Int32) = nI 999 from rfl, if_neg (fun q => by have := (nIle (by omega) (by omega)).mp q; omega)]
      exact ok2_some ⟨rfl, hI⟩
  rw [if_pos t3, if_neg n10]
  obtain ⟨x, hx, rfl, hx3⟩ := zin_e t1
  obtain ⟨m, hm, rfl, hm3⟩ := zin_e t2
  obtain ⟨q, hq, rfl, hq3⟩ := zin_e t3
  rw [if_neg (nI_pos (by omega)), show (999 : Int32) = nI 999 from rfl, if_pos ((nIle (by omega) (by omega)).mpr (by omega))]
  refine ok2_zl (zin_n (by omega) (by omega)) (ok2_zl (zin_n (by omega) (by omega)) ?_)
  have zv : zin (nI q) 1027 = true := zin_n (by omega) (by omega)
  have nq : ¬ nI q = -1 := nIm1 (by omega)
  rw [zn_n hx3, zn_n hm3]
  have e0 : fX7_termAt (12 * w + x) (nI m) 0 c = some (gi c 33 (12 * w + x) (4 * m + 0)) := pX7_termAt (k := 0) (by omega) hm
  obtain ⟨o, o8, oc, or', om, ol⟩ := hW.own hx
  have hJ : ∀ s0 : Int32, ¬ s0 < 0 → ∀ c1 c2 : zM, gi c2 32 (12 * w + x) m = nI 0 → fX9_give_J87 (nI m) (nI q) (12 * w + x) s0 c2 = some (s0, wi (wi c2 33 (12 * w + x) (4 * m + 0) (nI q)) 32 (12 * w + x) m (nI (0 + 1))) := fun s0 hs0 c1 c2 h2 => by
    unfold fX9_give_J87
    rw [if_neg hs0, pX7_addTerm hm h2 (by omega), Option.bind_some]
  cases hz : zfd (fun k => gi r 38 0 (113 * x + (65 + 6 * k))) (nI m) o with
  | none =>
    have e32 := (om m hm).1 hz
    rw [e32, if_neg (by decide)]
    unfold fX9_give_J68 fX9_give_J69
    rw [if_pos rfl]
    by_cases q8 : o = 8
    · subst q8
      rw [pX9_beginMember_no hW hx hm oc e32, qTells_full (by omega) or' hz]
      show ok2 (fX9_give_J87 (nI m) (nI q) (12 * w + x) (-3) c) _ _
      unfold fX9_give_J87
      rw [if_pos (by decide)]
      exact ok2_some ⟨rfl, hI⟩
    · refine ok2_l (pX9_beginMember (t := t) hW hH hx hm oc o8 (fun z => q8 z.2)) (fun a1 ha1 => ?_)
      refine ok2_r (qTells_new hW hH hx or' (by omega) hz) (fun b1 hb1 => ?_)
      obtain ⟨a2, c1, hC, a4⟩ := ha1
      obtain ⟨b2, r1, hR, b4⟩ := hb1
      rw [if_pos e32] at a2
      have hM := CM_need (N := 12 * w + x) (m := m) (o := o) (v := 0) (c1 := c1) (P := gi c 32 (12 * w + x) m = -1) (hW.own1 hx hC oc)
      rw [← a4, if_pos e32] at hM
      rw [hJ a1.1 (by rw [a2]; decide) c1 a1.2 hM.2.2.2.2.1]
      refine ok2_some ⟨by rw [a2, b2], ?_⟩
      rw [if_neg nq, if_neg nq] at b4
      exact own_new (cn := 1) (v := nI q) hT hW hS hH hx hC hR hm or' (by omega) hz (CM_give hM zv) (v' := nI q) (fun _ => rfl) b4
  | some k =>
    obtain ⟨cn, cn4, e32, e66, et⟩ := (om m hm).2 k hz
    have hk := (zfd_some hz).1
    rw [(qTells_set hW hx or' o8 hz).2 nq, e66, e32, e0, Option.bind_some]
    have ne1 : ¬ gi c 32 (12 * w + x) m = -1 := by rw [e32]; exact nIm1 (by omega)
    by_cases al : nI cn = 1 ∧ gi r 38 0 (113 * x + (67 + 6 * k)) = nI q
    · have c1' : 0 < cn := by
        have := (nIeq (a := cn) (b := 1) (by omega) (by omega)).mp al.1
        omega
      rw [if_pos al, if_pos al.1, (et 0 c1').1, Nat.add_zero, if_pos al.2]
      unfold fX9_give_J69 fX9_give_J87
      rw [if_neg n10, if_pos (by decide)]
      exact ok2_some ⟨rfl, hI⟩
    · have e1 : (if nI cn = 1 then if gi c 33 (12 * w + x) (4 * m + 0) = nI q then fX9_give_J69 (nI x) (nI m) (nI q) (12 * w + x) 1 c else fX9_give_J68 (nI x) (nI m) (nI q) (12 * w + x) c else fX9_give_J68 (nI x) (nI m) (nI q) (12 * w + x) c) = fX9_give_J68 (nI x) (nI m) (nI q) (12 * w + x) c := by
        by_cases q1 : nI cn = 1
        · have c1' : 0 < cn := by
            have := (nIeq (a := cn) (b := 1) (by omega) (by omega)).mp q1
            omega
          rw [if_pos q1, (et 0 c1').1, Nat.add_zero, if_neg (fun z => al ⟨q1, z⟩)]
        · rw [if_neg q1]
      rw [if_neg al, e1]
      unfold fX9_give_J68 fX9_give_J69
      rw [if_pos rfl]
      refine ok2_l (pX9_beginMember (t := t) hW hH hx hm oc o8 (fun z => ne1 z.1)) (fun a1 ha1 => ?_)
      refine ok2_r (qTells_go hH (by omega) (by omega)) (fun b1 hb1 => ?_)
      obtain ⟨a2, c1, hC, a4⟩ := ha1
      obtain ⟨b2, r1, hR, b4⟩ := hb1
      rw [if_neg ne1] at a2
      have hM := CM_need (N := 12 * w + x) (m := m) (o := o) (v := 0) (c1 := c1) (P := gi c 32 (12 * w + x) m = -1) (hW.own1 hx hC oc)
      rw [← a4, if_neg ne1] at hM
      rw [hJ a1.1 (by rw [a2]; decide) c1 a1.2 hM.2.2.2.2.1]
      refine ok2_some ⟨by rw [a2, b2], ?_⟩
      rw [if_neg nq, if_neg nq] at b4
      exact own_set (cn := 1) (v := nI q) hT hW hS hH hx hC hR hm or' o8 hz (CM_give hM zv) (v' := nI q) (fun _ => rfl) b4
