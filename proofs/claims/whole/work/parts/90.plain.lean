/-! questions that lay nothing out: parent, used, becomes, body, find; end -/
theorem ltn {v : Int32} {p : Nat} {α : Type} {x y : Option α} (hp : p ≤ 20000) : (if v < 0 then y else if v < nI p then x else y) = if zin v p = true then x else y := by
  by_cases h0 : v < 0
  · rw [if_pos h0, if_neg (fun q => zin_vp q (Or.inl h0))]
  · rw [if_neg h0]
    obtain ⟨j, hj, rfl⟩ := nI_of h0
    by_cases h1 : j < p
    · rw [if_pos ((nIlt (by omega) (by omega)).mpr h1), if_pos (zin_n h1 (by omega))]
    · rw [if_neg (fun q => h1 ((nIlt (by omega) (by omega)).mp q)), if_neg (fun q => by have := zin_z q; rw [zn_n hj] at this; omega)]
theorem call_parent (v1 v2 : Int32) : CALLp (fX9_parent v1 v2) (fX10_parent v1 v2) := fun c r hI => by
  obtain ⟨t, w, d, n, a, b, h, nx, hT, hW, hS, hH, hF⟩ := id hI
  have h12 := hW.n12
  unfold fX9_parent fX10_parent
  simp only [hW.1, hW.cTy, hW.rTy, Option.bind_some]
  by_cases t1 : zin v1 n = true ∧ gi r 38 0 (113 * zn v1) = 0
  rotate_left
  · rw [if_neg t1]; exact ok2_some rfl
  rw [if_pos t1, if_neg n10, if_neg n10]
  obtain ⟨x, hx, rfl, hx3⟩ := zin_e t1.1
  refine ok2_zl (zin_n (by omega) (by omega)) ?_
  rw [zn_n hx3]
  obtain ⟨p, p4, pc, pr, pk⟩ := hW.par hx
  rw [pX5_itemAt pc p4, Option.bind_some, qParents (by omega), Option.bind_some, pr, qIn (by omega), Option.bind_some]
  by_cases q : zin v2 p = true
  · obtain ⟨k, hk, rfl, hk3⟩ := zin_e q
    rw [if_pos q, if_pos q, if_neg n10, qParentOf (by omega) (by omega), Option.bind_some, zn_n hk3]
    exact ok2_some (pk k hk).1
  · rw [if_neg q, if_neg q, if_pos rfl]; exact ok2_some rfl
theorem call_used (v1 v2 : Int32) : CALLp (fX9_used v1 v2) (fX10_used v1 v2) := fun c r hI => by
  obtain ⟨t, w, d, n, a, b, h, nx, hT, hW, hS, hH, hF⟩ := id hI
  have h12 := hW.n12
  unfold fX9_used fX10_used
  simp only [hW.1, hW.cUn, hW.rUn, Option.bind_some]
  by_cases t1 : zin v1 n = true
  rotate_left
  · rw [if_neg t1]; exact ok2_some rfl
  rw [if_pos t1, if_neg n10, if_neg n10]
  obtain ⟨x, hx, rfl, hx3⟩ := zin_e t1
  refine ok2_zl (zin_n (by omega) (by omega)) ?_
  rw [zn_n hx3]
  obtain ⟨p, p4, pc, pr, pk⟩ := hW.use hx
  rw [pX5_itemAt pc p4, Option.bind_some, qUses (by omega), Option.bind_some, pr, qIn (by omega), Option.bind_some]
  by_cases q : zin v2 p = true
  · obtain ⟨k, hk, rfl, hk3⟩ := zin_e q
    rw [if_pos q, if_pos q, if_neg n10, qUseAt, Option.bind_some, zo _ (by omega) (by omega), zn_n hk3, zn_n (by omega)]
    exact ok2_some (pk k hk).1
  · rw [if_neg q, if_neg q, if_pos rfl]; exact ok2_some rfl
theorem call_becomes (v1 v2 v3 : Int32) : CALLp (fX9_becomes v1 v2 v3) (fX10_becomes v1 v2 v3) := fun c r hI => by
  obtain ⟨t, w, d, n, a, b, h, nx, hT, hW, hS, hH, hF⟩ := id hI
  have h12 := hW.n12
  unfold fX9_becomes fX10_becomes
  simp only [hW.1, hW.cUn, hW.rUn, Option.bind_some, pX9_isLetter, qIn26]
  by_cases t1 : zin v1 n = true
  rotate_left
  · rw [if_neg t1]; exact ok2_some rfl
  rw [if_pos t1, if_neg n10, if_neg n10]
  obtain ⟨x, hx, rfl, hx3⟩ := zin_e t1
  obtain ⟨p, p4, pc, pr, pk⟩ := hW.use hx
  rw [qUses (by omega), Option.bind_some, pr, qIn (by omega), Option.bind_some]
  by_cases t2 : zin v3 26 = true
  rotate_left
  · rw [if_neg t2, if_pos rfl, if_pos rfl]
    by_cases q : zin v2 p = true
    · rw [if_pos q, if_neg n10]; exact ok2_some rfl
    · rw [if_neg q, if_pos rfl]; exact ok2_some rfl
  rw [if_pos t2, if_neg n10, if_neg n10]
  refine ok2_zl (zin_n (by omega) (by omega)) ?_
  rw [zn_n hx3, pc, ltn (by omega)]
  obtain ⟨m, hm, rfl, hm3⟩ := zin_e t2
  by_cases q : zin v2 p = true
  · obtain ⟨k, hk, rfl, hk3⟩ := zin_e q
    obtain ⟨-, -, ⟨e, e6, ec, ere⟩, pb⟩ := pk k hk
    rw [if_pos q, if_pos q, if_neg n10, pX7_letterThere (by omega) hm, Option.bind_some, pb m hm, qBecomesIn (by omega) (by omega) ere e6, Option.bind_some]
    exact ok2_if Iff.rfl (fun _ _ => ok2_some rfl) (fun _ _ => ok2_some rfl)
  · rw [if_neg q, if_neg q, if_pos rfl]; exact ok2_some rfl
theorem m1le {v : Int32} (h : -1 ≤ v) (h1 : ¬ v = -1) : ¬ v < 0 := by
  rw [Int32.le_iff_toInt_le, show (-1 : Int32).toInt = -1 by decide] at h
  rw [Int32.lt_iff_toInt_lt, show (0 : Int32).toInt = 0 by decide]
  have : v.toInt ≠ -1 := fun q => h1 (Int32.toInt_inj.mp (by rw [q]; decide))
  omega
theorem call_body (v1 v2 v3 : Int32) : CALLp (fX9_body v1 v2 v3) (fX10_body v1 v2 v3) := fun c r hI => by
  obtain ⟨t, w, d, n, a, b, h, nx, hT, hW, hS, hH, hF⟩ := id hI
  have h12 := hW.n12
  unfold fX9_body fX10_body
  simp only [hW.1, hW.cUn, hW.rUn, Option.bind_some, pX9_isLetter]
  by_cases t1 : zin v1 n = true
  rotate_left
  · rw [if_neg t1]; exact ok2_some rfl
  rw [if_pos t1, if_neg n10, if_neg n10]
  obtain ⟨x, hx, rfl, hx3⟩ := zin_e t1
  obtain ⟨o, o8, oc, or', om, ol⟩ := hW.own hx
  rw [qOwnOf (by omega) or' o8, Option.bind_some, Option.bind_some]
  by_cases t2 : zin v2 26 = true
  rotate_left
  · have hz : zfd (fun k => gi r 38 0 (113 * x + (65 + 6 * k))) v2 o = none := zfd_no (fun k hk e => t2 (by rw [← e]; exact ol k hk))
    rw [if_neg t2, if_pos rfl, hz, if_pos (show zfx none = -1 from rfl)]
    exact ok2_some rfl
  rw [if_pos t2, if_neg n10]
  obtain ⟨m, hm, rfl, hm3⟩ := zin_e t2
  by_cases t3 : -1 ≤ v3
  rotate_left
  · rw [if_neg t3, if_neg t3]
    cases hz : zfd (fun k => gi r 38 0 (113 * x + (65 + 6 * k))) (nI m) o with
    | none => rw [if_pos (show zfx none = -1 from rfl)]; exact ok2_some rfl
    | some k => have := (zfd_some hz).1; rw [if_neg (zfx_some (by omega))]; exact ok2_some rfl
  rw [if_pos t3, if_pos t3]
  refine ok2_zl (zin_n (by omega) (by omega)) ?_
  rw [zn_n hx3, pX7_tells hm, Option.bind_some]
  cases hz : zfd (fun k => gi r 38 0 (113 * x + (65 + 6 * k))) (nI m) o with
  | none =>
    rw [(om m hm).1 hz, if_pos rfl, if_pos rfl, if_pos (show zfx none = -1 from rfl)]
    exact ok2_some rfl
  | some k =>
    obtain ⟨cn, cn4, e32, e66, et⟩ := (om m hm).2 k hz
    have hk := (zfd_some hz).1
    rw [if_neg (show ¬ gi c 32 (12 * w + x) m = -1 by rw [e32]; exact nIm1 (by omega)), if_neg n10, if_neg (zfx_some (by omega)), show zfx (some k) = nI k from rfl, qOwnAt, Option.bind_some]
    refine ok2_zl (zin_n hm (by omega)) ?_
    rw [zn_n hm3, e32, nI_1, zo _ (by omega) (by omega), zo _ (by omega) (by omega), zn_n (by omega), show 113 * x + (65 + 6 * k) + 1 = 113 * x + (66 + 6 * k) by omega, e66]
    refine ok2_if Iff.rfl (fun _ _ => ok2_some rfl) (fun hne _ => ?_)
    obtain ⟨j, hj, rfl⟩ := nI_of (m1le t3 hne)
    refine ok2_if Iff.rfl (fun _ _ => ok2_some rfl) (fun hlt _ => ?_)
    have hjc : j < cn := by
      have : ¬ cn ≤ j := fun q => hlt ((nIle (by omega) (by omega)).mpr q)
      omega
    rw [pX7_termAt (by omega) hm, Option.bind_some, l2, nI_add, nI_add, zo _ (by omega) (by omega), zn_n (by omega), show 113 * x + (65 + 6 * k) + 2 + j = 113 * x + (67 + 6 * k + j) by omega]
    exact ok2_some (et j hjc).1
theorem call_find (v1 : Int32) : CALLp (fX9_find v1) (fX10_find v1) := fun c r hI => by
  obtain ⟨t, w, d, n, a, b, h, nx, hT, hW, hS, hH, hF⟩ := id hI
  have h12 := hW.n12
  unfold fX9_find
  rw [hW.1, Option.bind_some, pX8_indexOf hW.2.2.2.2.2.1 h12, Option.bind_some, qFind hW.2.2.2.2.2.2.1 h12]
  refine ok2_some ?_
  rw [zfd_cg (fun u hu => ?_)]
  have h1 := (hW.ru hu).1.2.2.2
  rw [uC_7 (by omega), rR_0 (by omega)] at h1
  exact h1
/-! the tape -/
def relCt : List Nat := [1905, 1912, 109, 8, 5, 7, 30, 31, 32, 33, 34, 1102, 1103, 15, 11, 12, 13, 17, 18, 20, 21, 22]
def relRt : List Nat := [2005, 38, 40, 41, 42]
theorem INV_t {c c' r r' : zM} {ks ks' : List Nat} {t' : Nat} (h : INV c r) (f : FS ks c c') (hk : ∀ k ∈ relCt, k ∉ ks) (f' : FS ks' r r') (hk' : ∀ k ∈ relRt, k ∉ ks') (hT : TPI t' c' r') : INV c' r' := by
  obtain ⟨t, w, d, n, a, b, h', nx, -, hW, hS, hH, hF⟩ := h
  have hu : ∀ q, uC c' q = uC c q := fun q => uC_fs f (fun k hk2 => hk k (zss (a := [5, 7, 30, 31, 32, 33, 34]) (by decide) k hk2)) q
  have g : ∀ k i s, zisf k = false → k ∈ relCt → gi c' k i s = gi c k i s := fun k i s hf hk2 => FSa f i s hf (hk k hk2)
  have g9 : ∀ s, 1900 + s ∈ relCt → gi c' 9 0 s = gi c 9 0 s := fun s hs => FSf f 0 (by decide) (hk _ (by rw [show 1000 + 100 * 9 + s = 1900 + s by omega]; exact hs))
  have g1 : ∀ s, 1100 + s ∈ relCt → gi c' 1 0 s = gi c 1 0 s := fun s hs => FSf f 0 (by decide) (hk _ (by rw [show 1000 + 100 * 1 + s = 1100 + s by omega]; exact hs))
  have gr9 : ∀ s, gr c' 9 s = gr c 9 s := fun s => FSr f s (hk 109 (by decide))
  have e : ∀ k i s, zisf k = false → k ∈ relRt → gi r' k i s = gi r k i s := fun k i s hf hk2 => FSa f' i s hf (hk' k hk2)
  have e10 : ∀ s, 2000 + s ∈ relRt → gi r' 10 0 s = gi r 10 0 s := fun s hs => FSf f' 0 (by decide) (hk' _ (by rw [show 1000 + 100 * 10 + s = 2000 + s by omega]; exact hs))
  have er : ∀ k b u, zisf k = false → k ∈ relRt → rR r' k b u = rR r k b u := fun k b u hf hk2 => rR_cg (fun s _ => e k 0 _ hf hk2)
  refine ⟨t', w, d, n, a, b, h', nx, hT, ?_, ?_, ?_, ?_⟩
  · obtain ⟨w1, w2, w3, w4, w5, w6, w7, w8⟩ := hW
    exact ⟨by rw [gr9]; exact w1, by rw [gr9]; exact w2, w3, w4, w5, by rw [g 8 w 1 (by decide) (by decide)]; exact w6, by rw [e 38 0 _ (by decide) (by decide)]; exact w7, RelW_cg w8 (fun u _ => hu _) (fun u _ => er 38 0 u (by decide) (by decide))⟩
  · obtain ⟨s1, s2, s3, s4, s5, s6, s7⟩ := hS
    refine ⟨s1, s2, by rw [g9 5 (by decide)]; exact s3, by rw [e 42 0 0 (by decide) (by decide)]; exact s4, by rw [e 42 0 1 (by decide) (by decide)]; exact s5, fun q => ?_, fun q => ?_⟩
    · obtain ⟨n', q1, q2, q3⟩ := s6 q
      exact ⟨n', by rw [g 8 _ 1 (by decide) (by decide)]; exact q1, by rw [e 41 0 _ (by decide) (by decide)]; exact q2, RelW_cg q3 (fun u _ => hu _) (fun u _ => er 41 _ u (by decide) (by decide))⟩
    · obtain ⟨n', q1, q2, q3⟩ := s7 q
      exact ⟨n', by rw [g 8 _ 1 (by decide) (by decide)]; exact q1, by rw [e 41 0 _ (by decide) (by decide)]; exact q2, RelW_cg q3 (fun u _ => hu _) (fun u _ => er 41 _ u (by decide) (by decide))⟩
  · obtain ⟨p1, p2, p3, p4, p5, W, p6, p7⟩ := hH
    refine ⟨p1, p2, by rw [g1 3 (by decide)]; exact p3, by rw [e10 5 (by decide)]; exact p4, by rw [g1 2 (by decide)]; exact p5, W, fun u hun => by rw [hu]; exact p6 u hun, fun j hj => ?_⟩
    obtain ⟨x, x1, x2, x3, x4, x5⟩ := p7 j hj
    exact ⟨x, x1, by rw [g 15 0 _ (by decide) (by decide)]; exact x2, fun u hun => by rw [hu]; exact x3 u hun, RelW_cg x4 (fun u _ => rfl) (fun u _ => er 40 _ u (by decide) (by decide)), by rw [e 40 0 _ (by decide) (by decide)]; exact x5⟩
  · rw [g9 12 (by decide)]
    rcases hF with q | ⟨q, q2⟩
    · exact Or.inl q
    · exact Or.inr ⟨q, FLV_c q2 (fun u _ => hu _) (fun s => g 11 0 s (by decide) (by decide)) (fun s => g 12 0 s (by decide) (by decide)) (fun s => g 13 0 s (by decide) (by decide)) (fun i s => g 17 i s (by decide) (by decide)) (fun s => g 18 0 s (by decide) (by decide)) (fun i s => g 20 i s (by decide) (by decide)) (fun s => g 21 0 s (by decide) (by decide)) (fun s => g 22 0 s (by decide) (by decide))⟩
theorem call_end (v1 : Int32) : CALL (fX9_end v1) (fX10_end v1) := fun c r hI => by
  obtain ⟨t, w, d, n, a, b, h, nx, hT, hW, hS, hH, hF⟩ := id hI
  unfold fX9_end fX10_end
  rw [hT.2.1, hT.2.2.1]
  refine ok2_if Iff.rfl (fun _ _ => ok2_some ⟨rfl, hI⟩) (fun h0 _ => ?_)
  refine ok2_if Iff.rfl (fun hle _ => ?_) (fun _ _ => ok2_some ⟨rfl, hI⟩)
  obtain ⟨j, hj, rfl⟩ := nI_of h0
  have ht := hT.1
  have hjt : j ≤ t := (nIle (by omega) (by omega)).mp hle
  refine ok2_some ⟨rfl, INV_t (t' := j) (ks := [1901]) (ks' := [2007]) hI (FS_wf (by decide) (by decide) (FS_refl c)) (rel_no (by decide)) (FS_wf (by decide) (by decide) (FS_refl r)) (rel_no (by decide)) ⟨by omega, ?_, ?_, fun i hi => ?_⟩⟩
  · show gi (wi c 9 0 1 (nI j)) 9 0 1 = _
    rw [gi_wi, if_pos ⟨rfl, rfl, rfl⟩]
  · show gi (wi r 10 0 7 (nI j)) 10 0 7 = _
    rw [gi_wi, if_pos ⟨rfl, rfl, rfl⟩]
  · show gi (wi c 9 0 1 (nI j)) 36 0 i = gi (wi r 10 0 7 (nI j)) 43 0 i ∧ byt (gi (wi c 9 0 1 (nI j)) 36 0 i)
    rw [gi_wi, if_neg (by omega), gi_wi, if_neg (by omega)]
    exact hT.2.2.2 i hi
