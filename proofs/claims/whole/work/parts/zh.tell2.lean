/-! tell -/
theorem INV_d {d t' : Nat} {c c' r r' : zM} (hI : INV c r) (hd : gr c 9 3 = some d) (hD : DF d c c') (hR : FS KRr r r') (hT' : TPI t' c' r') : INV c' r' := by
  obtain ⟨t, w, d', n, a, b, h, nx, hT, hW, hS, hH, hF⟩ := id hI
  obtain ⟨w1, w2, w3, w4, w5, w6, w7, w8⟩ := hW
  rw [hd] at w2
  cases w2
  have h12 := w8.1
  obtain ⟨f, du, d8⟩ := hD
  have g : ∀ k i s, zisf k = false → k ∉ KSc → gi c' k i s = gi c k i s := fun k i s hf hk => FSa f i s hf hk
  have g9 : ∀ s, 1900 + s ∉ KSc → gi c' 9 0 s = gi c 9 0 s := fun s hs => FSf f 0 (by decide) (by rw [show 1000 + 100 * 9 + s = 1900 + s by omega]; exact hs)
  have g1 : ∀ s, 1100 + s ∉ KSc → gi c' 1 0 s = gi c 1 0 s := fun s hs => FSf f 0 (by decide) (by rw [show 1000 + 100 * 1 + s = 1100 + s by omega]; exact hs)
  have gr9 : ∀ s, gr c' 9 s = gr c 9 s := fun s => FSr f s (by decide)
  have rq : ∀ k i s, zisf k = false → k ∉ KRr → gi r' k i s = gi r k i s := fun k i s hf hk => FSa hR i s hf hk
  have r10 : ∀ s, 2000 + s ∉ KRr → gi r' 10 0 s = gi r 10 0 s := fun s hs => FSf hR 0 (by decide) (by rw [show 1000 + 100 * 10 + s = 2000 + s by omega]; exact hs)
  have uw : ∀ u, u < n → uC c' (12 * w + u) = uC c (12 * w + u) := fun u hu => du _ (by omega)
  refine ⟨t', w, d, n, a, b, h, nx, hT', ⟨by rw [gr9]; exact w1, by rw [gr9]; exact hd, w3, w4, w5, by rw [d8 w w5]; exact w6, by rw [rq 38 0 _ (by decide) (by decide)]; exact w7, RelW_cg w8 uw (fun u _ => rR_cg (fun s _ => rq 38 0 _ (by decide) (by decide)))⟩, ?_, ?_, ?_⟩
  · obtain ⟨s1, s2, s3, s4, s5, s6, s7⟩ := hS
    refine ⟨s1, s2, by rw [g9 5 (by decide)]; exact s3, by rw [rq 42 0 _ (by decide) (by decide)]; exact s4, by rw [rq 42 0 _ (by decide) (by decide)]; exact s5, fun q => ?_, fun q => ?_⟩
    · obtain ⟨m, y1, y2, y3⟩ := s6 q
      have := y3.1
      exact ⟨m, by rw [d8 _ (by omega)]; exact y1, by rw [rq 41 0 _ (by decide) (by decide)]; exact y2, RelW_cg y3 (fun u hu => du _ (by omega)) (fun u _ => rR_cg (fun s _ => rq 41 0 _ (by decide) (by decide)))⟩
    · obtain ⟨m, y1, y2, y3⟩ := s7 q
      have := y3.1
      exact ⟨m, by rw [d8 _ (by omega)]; exact y1, by rw [rq 41 0 _ (by decide) (by decide)]; exact y2, RelW_cg y3 (fun u hu => du _ (by omega)) (fun u _ => rR_cg (fun s _ => rq 41 0 _ (by decide) (by decide)))⟩
  · obtain ⟨p1, p2, p3, p4, p5, W, p6, p7⟩ := hH
    refine ⟨p1, p2, by rw [g1 3 (by decide)]; exact p3, by rw [r10 5 (by decide)]; exact p4, by rw [g1 2 (by decide)]; exact p5, W, fun u hu => by rw [uw u hu]; exact p6 u hu, fun j hj => ?_⟩
    obtain ⟨x, x1, x2, x3, x4, x5⟩ := p7 j hj
    exact ⟨x, x1, by rw [g 15 0 _ (by decide) (by decide)]; exact x2, fun u hu => by rw [du _ (by omega)]; exact x3 u hu, RelW_cg x4 (fun u _ => rfl) (fun u _ => rR_cg (fun s _ => rq 40 0 _ (by decide) (by decide))), by rw [rq 40 0 _ (by decide) (by decide)]; exact x5⟩
  · rw [g9 12 (by decide)]
    rcases hF with q | ⟨q, q2⟩
    · exact Or.inl q
    · exact Or.inr ⟨q, FLV_c q2 uw (fun s => g 11 0 s (by decide) (by decide)) (fun s => g 12 0 s (by decide) (by decide)) (fun s => g 13 0 s (by decide) (by decide)) (fun i s => g 17 i s (by decide) (by decide)) (fun s => g 18 0 s (by decide) (by decide)) (fun i s => g 20 i s (by decide) (by decide)) (fun s => g 21 0 s (by decide) (by decide)) (fun s => g 22 0 s (by decide) (by decide))⟩
theorem call_tell : CALL fX9_tell fX10_tell := fun c r hI => by
  obtain ⟨t, w, d, n, a, b, h, nx, hT, hW, hS, hH, hF⟩ := id hI
  obtain ⟨t1, t2, t3, t4⟩ := id hT
  obtain ⟨w1, w2, w3, w4, w5, w6, w7, w8⟩ := id hW
  have hB : TB t (tb8 c) := ⟨t1, tb8_lt c⟩
  unfold fX9_tell fX10_tell
  rw [w2, Option.bind_some, t2]
  unfold fX4_read_36
  have e4 : (if (400 : Int32) < nI t then 400 else nI t) = nI t := by
    rw [if_neg (show ¬ (400 : Int32) < nI t from fun q => by have := (nIlt (a := 400) (by omega) (by omega)).mp q; omega)]
  rw [e4]
  generalize hm3 : wr (wi (wr c 4 0 (some 0)) 4 0 1 (nI t)) 4 7 (some d) = m3
  have g37 : gr m3 4 7 = some d := by rw [← hm3]; simp [gr_wr, gr_wi]
  have g30 : gr m3 4 0 = some 0 := by rw [← hm3]; simp [gr_wr, gr_wi]
  have g31 : gi m3 4 0 1 = nI t := by rw [← hm3]; simp [gi_wr, gi_wi]
  have f3 : FS [104, 1401] c m3 := by rw [← hm3]; exact FS_wr (by decide) (FS_wf (by decide) (by decide) (FS_wr (by decide) (FS_refl c)))
  rw [zob_t _ (show (gr (wr c 4 0 (some 0)) 4 0 == some 0) = true by simp [gr_wr]), g37, Option.bind_some]
  have hI3 : INV m3 r := INV_l hI f3 (rel_no (by decide))
  have w23 : gr m3 9 3 = some d := by rw [FSr f3 3 (by decide)]; exact w2
  have w13 : gr m3 9 2 = some w := by rw [FSr f3 2 (by decide)]; exact w1
  generalize hm4 : wi (wi (wi m3 8 d 1 0) 4 0 5 0) 4 0 3 0 = m4
  have f45 : FS [1402, 1403, 1404, 1405, 1406] (wi m3 8 d 1 0) m4 := by rw [← hm4]; exact FS_wf (by decide) (by decide) (FS_wf (by decide) (by decide) (FS_refl _))
  have hD4 : DF d m3 m4 := DF_tr DF_8.1 (DF_lx f45)
  have hTC4 : TC t (tb8 c) m4 := by
    refine ⟨by rw [FSr hD4.1 0 (by decide)]; exact g30, by rw [FSf hD4.1 0 (by decide) (by decide)]; exact g31, fun i hi => ?_⟩
    rw [FSa hD4.1 0 i (by decide) (by decide), FSa f3 0 i (by decide) (by decide)]
    exact tb8_e (t4 i (by omega)).2
  have e43 : gi m4 4 0 3 = nI 0 := by rw [← hm4, gi_wi, if_pos ⟨rfl, rfl, rfl⟩]; rfl
  have e45 : gi m4 4 0 5 = 0 := by rw [← hm4, gi_wi, if_neg (by omega), gi_wi, if_pos ⟨rfl, rfl, rfl⟩]
  have e48 : gi m4 8 d 1 = nI 0 := by rw [FSa f45 d 1 (by decide) (by decide), gi_wi, if_pos ⟨rfl, rfl, rfl⟩]; rfl
  obtain ⟨c5, ec5, p, q, x1, x2, x3, x4, x5, x6⟩ := pX4_pass hB hTC4 e43 (Nat.zero_le t)
  have hL5 : LC t (tb8 c) p q c5 := ⟨TC_fs hTC4 x6 (by decide), x2, x3, x4, x5, by rw [FSf x6 0 (by decide) (by decide)]; exact e45⟩
  have hD5 : DF d m3 c5 := DF_tr hD4 (DF_lx (lxc x6 (by decide)))
  generalize hr0 : wi (wi (wi r 10 0 8 0) 10 0 9 (-1)) 39 0 (zn 1356) 0 = r0
  have fr0 : FS KRr r r0 := by rw [← hr0]; exact FS_wa (by decide) (by decide) (FS_wf (by decide) (by decide) (FS_wf (by decide) (by decide) (FS_refl r)))
  have hTR : TR t (tb8 c) r0 := by
    refine ⟨by rw [FSf fr0 0 (by decide) (by decide)]; exact t3, fun i hi => ?_⟩
    rw [FSa fr0 0 i (by decide) (by decide), ← (t4 i (by omega)).1]
    exact tb8_e (t4 i (by omega)).2
  have hA0 : AR t (tb8 c) 0 r0 := ⟨hTR, by rw [← hr0, gi_wi, if_neg (by omega), gi_wi, if_pos ⟨rfl, rfl, rfl⟩], by rw [← hr0, gi_wi, if_neg (by omega), gi_wi, if_neg (by omega), gi_wi, if_pos ⟨rfl, rfl, rfl⟩]; rfl⟩
  obtain ⟨b1, eb1, y0, y1, y2⟩ := rNext hB ⟨0, hA0, x1⟩ x2.1
  have hF1 : FS KRr r b1.2 := FS_tr fr0 (krr y2 (by decide))
  have hW5 : DW d 0 c5 b1.2 := by
    refine ⟨by rw [FSr hD5.1 7 (by decide)]; exact g37, by rw [FSa x6 d 1 (by decide) (by decide)]; exact e48, ?_, by omega, fun u hu => by omega⟩
    rw [FSa y2 0 _ (by decide) (by decide), ← hr0, n1356, gi_wi, if_pos ⟨rfl, rfl, rfl⟩]; rfl
  rw [ec5, Option.bind_some, eb1, Option.bind_some, y0, x3, hL5.1.2.1]
  -- the two sides' flags
  have pt := x2.1
  have key : ∀ f : Int32, ((f = 1 ∧ p < t) ∨ (f = 0 ∧ p = t)) → ok2 ((fX4_read_36_J61 f c5).bind (fun x2 => if x2.1 = 0 then ((gr ((wi x2.2 9 0 1 0)) 9 3).bind (fun j3 => (gr ((wi x2.2 9 0 1 0)) 9 2).bind (fun j4 => (fX9_startAnew ((wr ((wr ((wi x2.2 9 0 1 0)) 9 3 (some j4))) 9 2 (some j3)))).bind (fun x5 => (gr x5 9 2).bind (fun j6 => some (((gi x5 8 j6 1), x5))))))) else (some (((((-2)) - x2.1), (wi x2.2 9 0 1 0)))))) (fX10_tell_J32 f b1.2) (fun a b => a.1 = b.1 ∧ INV a.2 b.2) := fun f hf => by
    unfold fX4_read_36_J61 fX10_tell_J32
    obtain ⟨e, e', ee, ee', c6, r6, rfl, rfl, hD6, hF6, hE⟩ := loopU hB hL5 (AR_LR y1 x2.2.2.1) hW5 hD5 hF1 f hf
    rw [ee, ee', Option.bind_some, Option.bind_some]
    have tp : ∀ {c7 r7 : zM}, DF d m3 c7 → FS KRr r r7 → TPI t c7 r7 := fun h7 h8 => ⟨t1, by rw [FSf h7.1 0 (by decide) (by decide), FSf f3 0 (by decide) (by decide)]; exact t2, by rw [FSf h8 0 (by decide) (by decide)]; exact t3, fun i hi => by
      rw [FSa h7.1 0 i (by decide) (by decide), FSa f3 0 i (by decide) (by decide), FSa h8 0 i (by decide) (by decide)]
      exact t4 i hi⟩
    have bad : ∀ {r7 : zM} {F : Int32}, gi c6 4 0 5 = F → F ≠ 0 → FS KRr r r7 → gi r7 10 0 9 = F → F ≠ -1 → ok2 (some ((-2) - F, wi c6 9 0 1 0)) (fX10_tell_J75 r7) (fun a b => a.1 = b.1 ∧ INV a.2 b.2) := fun {r7 F} h1 h2 h3 h4 h5 => by
      unfold fX10_tell_J75
      have f7 := FS_wf (v := 0) (k := 10) (s := 7) (i := 0) (ks := [2007]) (by decide) (by decide) (FS_refl r7)
      have f9 := FS_wf (v := 0) (k := 9) (s := 1) (i := 0) (ks := [1901]) (by decide) (by decide) (FS_refl c6)
      have e9 : gi (wi r7 10 0 7 0) 10 0 9 = F := by rw [gi_wi, if_neg (by omega)]; exact h4
      rw [qWrong (by rw [e9]; exact h5), Option.bind_some, if_pos (show (0 : Int32) = 0 from rfl), e9]
      have hI6 : INV c6 r7 := INV_d hI3 w23 hD6 h3 (tp hD6 h3)
      exact ok2_some ⟨rfl, INV_t hI6 f9 (rel_no (by decide)) f7 (rel_no (by decide)) (t' := 0) ⟨by omega, by rw [gi_wi, if_pos ⟨rfl, rfl, rfl⟩]; rfl, by rw [gi_wi, if_pos ⟨rfl, rfl, rfl⟩]; rfl, fun i hi => by rw [gi_wi, if_neg (by omega), gi_wi, if_neg (by omega)]; exact (tp hD6 h3).2.2.2 i hi⟩⟩
    rcases hE with ⟨q6, n6, l1, l2, l3⟩ | ⟨p6, l1, l2, l3⟩ | ⟨F, l1, l2, l3⟩
    · obtain ⟨a6, a61, a62⟩ := id l2
      have e50 : gi c6 4 0 5 = 0 := l1.2.2.2.2.2
      show ok2 ((some (gi c6 4 0 5, c6)).bind _) ((fX10_isRight r6).bind _) _
      have g93 : gr (wi c6 9 0 1 0) 9 3 = some d := by rw [gr_wi, FSr hD6.1 3 (by decide)]; exact w23
      have g92 : gr (wi c6 9 0 1 0) 9 2 = some w := by rw [gr_wi, FSr hD6.1 2 (by decide)]; exact w13
      rw [e50, Option.bind_some, if_pos (show (0 : Int32) = 0 from rfl), g93, Option.bind_some, g92, Option.bind_some, qRight a61.2.1, Option.bind_some, if_neg n10]
      unfold fX9_startAnew fX1_forgetAll
      rw [Option.bind_some, Option.bind_some]
      generalize hc8 : wi (wi (wr (wr (wi c6 9 0 1 0) 9 3 (some w)) 9 2 (some d)) 1 0 3 0) 9 0 12 1 = c8
      have k92 : gr c8 9 2 = some d := by rw [← hc8]; simp [gr_wr, gr_wi]
      have k93 : gr c8 9 3 = some w := by rw [← hc8]; simp [gr_wr, gr_wi]
      have f8 : FS [1901, 109, 1103, 1912] c6 c8 := by rw [← hc8]; exact FS_wf (by decide) (by decide) (FS_wf (by decide) (by decide) (FS_wr (by decide) (FS_wr (by decide) (FS_wf (by decide) (by decide) (FS_refl c6)))))
      rw [k92, Option.bind_some]
      refine ok2_r (rNext hB l2 (Nat.le_refl t)) (fun b7 h7 => ?_)
      obtain ⟨z0, z1, z2⟩ := h7
      rw [z0, if_pos (show Rs (sg t (tb8 c) t) = -1 by rw [sg_e (Nat.le_refl t)]; rfl)]
      unfold fX10_tell_J75
      have e9 : gi (wi b7.2 10 0 7 0) 10 0 9 = -1 := by rw [gi_wi, if_neg (by omega)]; exact z1.2.1
      rw [qRight e9, Option.bind_some, if_neg n10]
      refine ok2_r (qMoves_39_38 (wi b7.2 10 0 7 0)) (fun r8 h8 => ?_)
      obtain ⟨k1, k2⟩ := h8
      have hF7 : FS KRr r b7.2 := FS_tr hF6 (krr z2 (by decide))
      have r39 : ∀ s, gi (wi b7.2 10 0 7 0) 39 0 s = gi r6 39 0 s := fun s => by rw [gi_wi, if_neg (by omega), FSa z2 0 s (by decide) (by decide)]
      have r38 : ∀ s, s < 1357 → gi (wi r8 10 0 5 0) 38 0 s = gi r6 39 0 s := fun s hs => by
        rw [gi_wi, if_neg (by omega), k1, if_pos ⟨rfl, rfl, by omega, by omega⟩, Nat.zero_add, Nat.sub_zero, r39]
      have ro : ∀ k s, k ≠ 38 → k ∉ KRr → zisf k = false → gi (wi r8 10 0 5 0) k 0 s = gi r k 0 s := fun k s h1 h2 h3 => by
        have hk10 : k ≠ 10 := fun q => by rw [q] at h3; exact absurd h3 (by decide)
        rw [gi_wi, if_neg (fun q => hk10 q.1), k1, if_neg (fun q => h1 q.1), gi_wi, if_neg (fun q => hk10 q.1), FSa hF7 0 s h3 h2]
      have n8 : gi c8 8 d 1 = nI n6 := by rw [FSa f8 d 1 (by decide) (by decide)]; exact l3.2.1
      have n38 : gi (wi r8 10 0 5 0) 38 0 1356 = nI n6 := by rw [r38 _ (by omega)]; exact l3.2.2.1
      refine ok2_some ⟨by rw [n1356]; show gi c8 8 d 1 = _; rw [n8, n38], ?_⟩
      refine INV_new (n' := n6) hT hW hS hH (t' := 0) (w' := d) (d' := w) ⟨by omega, ?_, ?_, fun i hi => ?_⟩ w4 w3 (fun q => w5 q.symm) k92 k93 n8 n38 ?_ (fun q h1 h2 => ?_) (fun i hi => ?_) ?_ ?_ ?_ ?_ (fun s => ro 41 s (by decide) (by decide) (by decide)) (fun s => ro 42 s (by decide) (by decide) (by decide)) ?_
      · show gi c8 9 0 1 = nI 0
        rw [← hc8]; simp [gi_wr, gi_wi]; rfl
      · show gi (wi r8 10 0 5 0) 10 0 7 = nI 0
        rw [gi_wi, if_neg (by omega), k1, if_neg (by omega), gi_wi, if_pos ⟨rfl, rfl, rfl⟩]; rfl
      · show gi c8 36 0 i = gi (wi r8 10 0 5 0) 43 0 i ∧ byt (gi c8 36 0 i)
        rw [FSa f8 0 i (by decide) (by decide), FSa hD6.1 0 i (by decide) (by decide), FSa f3 0 i (by decide) (by decide), ro 43 i (by decide) (by decide) (by decide)]
        exact t4 i hi
      · refine RelW_cg l3.2.2.2 (fun u hu => uC_fs f8 (by decide) _) (fun u hu => ?_)
        have h12 := l3.2.2.2.1
        exact rR_cg (fun s hs => by rw [Nat.zero_add]; exact r38 _ (by omega))
      · show uC c8 q = uC c q
        rw [uC_fs f8 (by decide) q, hD6.2.1 q (by omega), uC_fs f3 (by decide) q]
      · show gi c8 8 i 1 = gi c 8 i 1
        rw [FSa f8 i 1 (by decide) (by decide), hD6.2.2 i (by omega), FSa f3 i 1 (by decide) (by decide)]
      · show gi c8 9 0 5 = gi c 9 0 5
        rw [FSf f8 0 (by decide) (by decide), FSf hD6.1 0 (by decide) (by decide), FSf f3 0 (by decide) (by decide)]
      · show gi c8 1 0 2 = gi c 1 0 2
        rw [FSf f8 0 (by decide) (by decide), FSf hD6.1 0 (by decide) (by decide), FSf f3 0 (by decide) (by decide)]
      · show gi c8 1 0 3 = nI 0
        rw [← hc8]; simp [gi_wr, gi_wi]; rfl
      · show gi c8 9 0 12 = 1
        rw [← hc8]; simp [gi_wr, gi_wi]
      · show gi (wi r8 10 0 5 0) 10 0 5 = nI 0
        rw [gi_wi, if_pos ⟨rfl, rfl, rfl⟩]; rfl
    · obtain ⟨a6, a61, a62⟩ := id l3
      show ok2 ((some (gi c6 4 0 5, c6)).bind _) ((fX10_isRight r6).bind _) _
      rw [l2, Option.bind_some, if_neg (show ¬ FL p6 1 = 0 from FL_0 hB (by omega) (by omega) (by omega)), qRight a61.2.1, Option.bind_some, if_neg n10]
      refine ok2_r (rNext hB l3 (by omega)) (fun b7 h7 => ?_)
      obtain ⟨z0, z1, z2⟩ := h7
      have b6 := hB.2 p6
      rw [z0, if_neg (show ¬ Rs (sg t (tb8 c) p6) = -1 from fun w => by have := (Rs_m1 _ (sg_lt hB p6)).mp w; rw [sg_l l1] at this; omega), z1.2.2, show fX10_fails 1 (nI p6) b7.2 = some (wi b7.2 10 0 9 (FL p6 1)) from qFail (v := 1) z1.2.1, Option.bind_some]
      exact bad l2 (FL_0 hB (by omega) (by omega) (by omega)) (FS_wf (by decide) (by decide) (FS_tr hF6 (krr z2 (by decide)))) (by rw [gi_wi, if_pos ⟨rfl, rfl, rfl⟩]) (FL_ne hB (by omega) (by omega))
    · show ok2 ((some (gi c6 4 0 5, c6)).bind _) ((fX10_isRight r6).bind _) _
      rw [l1, Option.bind_some, if_neg (show ¬ F = 0 from l2), l3.no, Option.bind_some, if_pos (show (0 : Int32) = 0 from rfl)]
      exact bad l1 l2 hF6 l3.2.1 l3.2.2.1
  by_cases z : p = t
  · rw [if_pos (show nI t ≤ nI p by rw [z]; exact Int32.le_refl _), if_pos (show Rs (sg t (tb8 c) p) = -1 by rw [sg_e (by omega)]; rfl)]
    exact key 0 (Or.inr ⟨rfl, z⟩)
  · have b6 := hB.2 p
    rw [if_neg (fun q => by have := (nIle (by omega) (by omega)).mp q; omega), if_neg (show ¬ Rs (sg t (tb8 c) p) = -1 from fun w => by have := (Rs_m1 _ (sg_lt hB p)).mp w; rw [sg_l (by omega)] at this; omega)]
    exact key 1 (Or.inl ⟨rfl, by omega⟩)
