/-! readChange -/
section LX
variable {t : Nat} {T : Nat → Nat}
theorem w165 {F v3 v4 s0 s1 s2 : Int32} {r : zM} (h : WR t T F r) : ok (fX10_readsChange_J165 v3 v4 s0 s1 s2 r) (fun r' => WR t T F r' ∧ FS [2008, 2009, 2010, 2011] r r') := by
  unfold fX10_readsChange_J165 fX10_lays
  rw [h.no, Option.bind_some, if_pos rfl, Option.bind_some]
  have f := FS_wf (v := v3 ||| 1 <<< (v4 &&& 31)) (k := 10) (s := 11) (i := 0) (ks := [2011]) (by decide) (by decide) (FS_refl r)
  exact ok_some ⟨WR_fs h f (by decide), lxr f (by decide)⟩
theorem w65 {F v1 v3 v4 : Int32} {r : zM} (h : WR t T F r) : ok (fX10_readsChange_J65 v1 v3 v4 r) (fun r' => WR t T F r' ∧ FS [2008, 2009, 2010, 2011] r r') := by
  unfold fX10_readsChange_J65 fX10_lays
  rw [h.no, Option.bind_some, if_pos rfl, Option.bind_some]
  have f := FS_wf (v := v3 ||| 1 <<< (v4 &&& 31)) (k := 10) (s := 11) (i := 0) (ks := [2011]) (by decide) (by decide) (FS_refl r)
  exact ok_some ⟨WR_fs h f (by decide), lxr f (by decide)⟩
theorem w140 {F v1 v3 v4 : Int32} {r : zM} (h : WR t T F r) : ok (fX10_readsChange_J140 v1 v3 v4 r) (fun r' => WR t T F r' ∧ FS [2008, 2009, 2010, 2011] r r') := by
  unfold fX10_readsChange_J140
  refine ok_bind (wMust (v := 62) h) (fun b hb => ?_)
  rw [hb.1.no, Option.bind_some, if_pos (show (0 : Int32) = 0 from rfl)]
  exact ok_mono (w165 hb.1) (fun r' hr => ⟨hr.1, FS_tr (lxr hb.2 (by decide)) hr.2⟩)
def RC2 (t : Nat) (T : Nat → Nat) (d n k i : Nat) (c r : zM) (a : Int32 × zM) (r' : zM) : Prop := DF d c a.2 ∧ FS KRr r r' ∧ ((a.1 = 1 ∧ ∃ p q e' B', LC t T p q a.2 ∧ LR t T p r' ∧ DU d n a.2 r' ∧ CH n k e' B' r' ∧ gi a.2 4 0 6 = nI B' ∧ gi r' 10 0 11 = nI B' ∧ i < 6 ∧ e' ≤ i + 1 ∧ ∀ s, s < 113 * n + 7 ∨ 113 * n + 64 ≤ s → gi r' 39 0 s = gi r 39 0 s) ∨ (a.1 = 0 ∧ ∃ F, gi a.2 4 0 5 = F ∧ F ≠ 0 ∧ WR t T F r'))
theorem change2 {d n k i e B p q : Nat} {c r : zM} (hB : TB t T) (h : LC t T p q c) (hR : LR t T p r) (hU : DU d n c r) (hC : CH n k e B r) (hb : gi c 4 0 6 = nI B) (hi : i ≤ 6) (he : e ≤ i) : ok2 (fX4_readChange (12 * d + n) (nI k) (nI i) c) (fX10_readsChange (nI (113 * n + (8 + 14 * k))) (nI i) (nI B) r) (RC2 t T d n k i c r) := by
  have ht := hB.1
  have hK := h.2.1
  have hp := hK.1
  have B26 := hC.2.2.2.1
  have B31 : B < 2 ^ 31 := by omega
  have bad : ∀ {c' r' r'' : zM} {p' q' v : Nat} {g : Option zM}, LC t T p' q' c' → DF d c c' → FS KRr r r' → 0 < v → v < 8 → ok g (fun r'' => WR t T (FL p' v) r'' ∧ FS [2008, 2009, 2010, 2011] r' r'') → ok2 ((fX4_refuse (nI v) c').bind (fun x => zob (zbo x.1) (some (x.1, x.2)))) g (RC2 t T d n k i c r) := by
    intro c' r' r'' p' q' v g h1 h2 h3 h4 h5 h6
    rw [cRef h1, Option.bind_some]
    refine ok2_zl (show zbo 0 = true by decide) (ok2_of (ok_some rfl) h6 (fun a b ha hb => ?_))
    subst ha
    exact ⟨DF_tr h2 (DF_lx fRef.1), FS_tr h3 (krr hb.2 (by decide)), Or.inr ⟨rfl, _, fRef.2, FL_0 hB h1.2.1.1 h4 h5, hb.1⟩⟩
  have c6 : ∀ i, i < 6 → nI i < 6 := fun i hi => (nIlt (b := 6) (by omega) (by omega)).mpr hi
  have n6 : ¬ nI 6 < 6 := fun q => Int32.lt_irrefl q
  have e6 : ∀ i, i ≤ 6 → ¬ i = 6 → ¬ nI i = 6 := fun i hi h q => h ((nIeq (b := 6) (by omega) (by omega)).mp q)
  -- the end: a letter m goes to `to`
  have fin : ∀ {c' r' : zM} {p' q' m : Nat} {to : Int32}, i < 6 → LC t T p' q' c' → LR t T p' r' → DU d n c' r' → CH n k e B r' → gi c' 4 0 6 = nI (B ||| 2 ^ m) → DF d c c' → FS [2008, 2009, 2010, 2011] r r' → m < 26 → B.testBit m = false → (to = -1 ∨ zin to 26 = true) → ok2 (fX4_readChange_J151 (12 * d + n) (nI k) (nI m) to c') ((fX10_lays (nI (113 * n + (8 + 14 * k))) (nI m) to r').bind (fun x7 => some (wi x7 10 0 11 (nI B ||| 1 <<< (nI m &&& 31))))) (RC2 t T d n k i c r) := by
    intro c' r' p' q' m to i6 h1 h2 h3 h4 h5 h6 h7 hm h8 h9
    unfold fX4_readChange_J151
    have h29 : gi r' 10 0 9 = -1 := by obtain ⟨a, a1, -⟩ := h2; exact a1.2.1
    refine ok2_bind (lays_put h3 h4 (by omega) hm h8 h9 h29) (fun c2 r2 h10 => ?_)
    obtain ⟨x1, x2, x3, x4, ⟨e', x5, x6⟩, x7⟩ := h10
    rw [set1 (by omega)]
    have f := FS_wf (v := nI (B ||| 2 ^ m)) (k := 10) (s := 11) (i := 0) (ks := [2011]) (by decide) (by decide) (FS_refl r2)
    refine ok2_some ⟨DF_tr h6 x2, FS_tr (krr h7 (by decide)) (FS_tr (krr x4 (by decide)) (krr f (by decide))), Or.inl ⟨rfl, p', q', e', B ||| 2 ^ m, LC_fs h1 x3 (by decide), LR_fs (LR_fs h2 x4 (by decide)) f (by decide), DU_fs x1 (FS_refl _) (lxr f (by decide)), CH_fs x6 (lxr f (by decide)), ?_, ?_, i6, by omega, fun s hs => ?_⟩⟩
    · rw [FSf x3 0 (by decide) (by decide)]; exact h5
    · rw [gi_wi, if_pos ⟨rfl, rfl, rfl⟩]
    · rw [gi_wi, if_neg (by omega), x7 s hs, FSa h7 0 s (by decide) (by decide)]
  unfold fX4_readChange fX10_readsChange
  rw [h.2.2.2.2.1]
  refine ok2_r (rNext hB hR hp) (fun b1 hb1 => ?_)
  obtain ⟨y0, y1, y2⟩ := hb1
  have g1 : FS [2008, 2009, 2010, 2011] r b1.2 := lxr y2 (by decide)
  rw [y0]
  by_cases s45 : sg t T p = 45
  · obtain ⟨w1, w2⟩ := sg_1 hK s45 (by omega) (by omega) (by omega)
    rw [if_pos (show Cs (sg t T p) = 45 from (Cs_v _ (sg_lt hB p) 45 (by omega)).mpr s45), if_pos (show Rs (sg t T p) = 45 from (Rs_v _ (sg_lt hB p) 45 (by omega)).mpr s45)]
    unfold fX4_readChange_J14
    rw [if_neg n10]
    by_cases i6 : i = 6
    · subst i6
      rw [if_neg n6, if_pos (show nI 6 = 6 from rfl), y1.2.2, show fX10_fails 3 (nI p) b1.2 = some (wi b1.2 10 0 9 (FL p 3)) from qFail (v := 3) y1.2.1, Option.bind_some]
      have hW : WR t T (FL p 3) (wi b1.2 10 0 9 (FL p 3)) := WR_of hB y1.1 y1.2.2 hp hp (by omega)
      have fW := FS_wf (v := FL p 3) (k := 10) (s := 9) (i := 0) (ks := [2009]) (by decide) (by decide) (FS_refl b1.2)
      refine bad (r'' := r) (v := 3) h (DF_refl c) (FS_tr (krr g1 (by decide)) (krr fW (by decide))) (by omega) (by omega) ?_
      unfold fX10_readsChange_J24
      have h8 : gi (wi b1.2 10 0 9 (FL p 3)) 10 0 8 = nI p := by rw [gi_wi, if_neg (by omega)]; exact y1.2.2
      rw [h8, nI_1]
      have hW2 := w143 hB hW h8 w2
      refine ok_bind (wLetter hB hW2) (fun b hb => ?_)
      rw [hb.1.no, Option.bind_some, if_pos (show (0 : Int32) = 0 from rfl)]
      refine ok_mono (w65 hb.1) (fun r' hr => ⟨hr.1, FS_tr (FS_tr (lxr (FS_wf (v := nI (p + 1)) (k := 10) (s := 8) (i := 0) (ks := [2008]) (by decide) (by decide) (FS_refl _)) (by decide)) (lxr hb.2 (by decide))) hr.2⟩)
    · have i6' : i < 6 := by omega
      rw [if_pos (c6 i i6'), if_neg (e6 i hi i6)]
      refine ok2_l (pass_LC hB h) (fun c3 h3 => ?_)
      obtain ⟨p', q', e1, e2, e3⟩ := h3
      have hK' := e2.2.1
      obtain ⟨m1, m2⟩ := cMember hB e2
      have hU3 := DU_fs hU (lxc e3 (by decide)) g1
      have b3 : gi c3 4 0 6 = nI B := by rw [FSf e3 0 (by decide) (by decide)]; exact hb
      unfold fX4_readChange_J37 fX10_readsChange_J24
      rw [y1.2.2, nI_1]
      have fA := FS_wf (v := nI (p + 1)) (k := 10) (s := 8) (i := 0) (ks := [2008]) (by decide) (by decide) (FS_refl b1.2)
      have hA : AR t T q (wi b1.2 10 0 8 (nI (p + 1))) := ⟨TR_fs y1.1 fA (by decide), by rw [gi_wi, if_neg (by omega)]; exact y1.2.1, by rw [gi_wi, if_pos ⟨rfl, rfl, rfl⟩, w1]⟩
      refine ok2_r (rLetter hB ⟨q, hA, e1⟩ hK') (fun b hb' => ?_)
      obtain ⟨t1, t2, t3, t4⟩ := hb'
      have g2 : FS [2008, 2009, 2010, 2011] r b.2 := FS_tr g1 (FS_tr (lxr fA (by decide)) (lxr t4 (by decide)))
      by_cases y : lw t T p' ∧ q' = p' + 1
      rotate_left
      · have hW := t2 y
        rw [m2 y, Option.bind_some, if_pos (show (-1 : Int32) = -1 from rfl), hW.no, Option.bind_some, if_pos (show (0 : Int32) = 0 from rfl)]
        exact bad (r'' := r) (v := 1) e2 (DF_lx (lxc e3 (by decide))) (krr g2 (by decide)) (by omega) (by omega) (w65 hW)
      obtain ⟨v1, hA2⟩ := t1 y
      have yl := y.1
      unfold lw at yl
      rw [m1 y, v1, Option.bind_some, if_neg (nIm1 (by omega)), b3, qRight hA2.2.1, Option.bind_some, if_neg n10]
      generalize hm' : sg t T p' - 97 = m
      have hm : m < 26 := by omega
      rw [has_c B31 (by omega), has_r B31 (by omega), Option.bind_some, Option.bind_some]
      by_cases hbit : B.testBit m = true
      · rw [if_pos hbit, if_neg n10, if_neg n10, t3, show fX10_fails 2 (nI p') b.2 = some (wi b.2 10 0 9 (FL p' 2)) from qFail (v := 2) hA2.2.1, Option.bind_some]
        have fW := FS_wf (v := FL p' 2) (k := 10) (s := 9) (i := 0) (ks := [2009]) (by decide) (by decide) (FS_refl b.2)
        exact bad (r'' := r) (v := 2) e2 (DF_lx (lxc e3 (by decide))) (FS_tr (krr g2 (by decide)) (krr fW (by decide))) (by omega) (by omega) (w65 (WR_of hB hA2.1 hA2.2.2 hK'.2.1 hK'.1 (by omega)))
      · have hbit' : B.testBit m = false := by simpa using hbit
        rw [if_neg hbit, if_pos (show (0 : Int32) = 0 from rfl), if_pos (show (0 : Int32) = 0 from rfl), if_pos (c6 i i6'), set1 (by omega)]
        have f4 := FS_wf (v := nI (B ||| 2 ^ m)) (k := 4) (s := 6) (i := 0) (ks := [1406]) (by decide) (by decide) (FS_refl c3)
        refine ok2_l (pass_LC hB (LC_fs e2 f4 (by decide))) (fun c5 h5 => ?_)
        obtain ⟨p5, q5, x1, x2, x3⟩ := h5
        rw [if_neg n10]
        unfold fX10_readsChange_J65
        refine fin i6' x2 ⟨q', hA2, x1⟩ (DU_fs hU (FS_tr (lxc e3 (by decide)) (FS_tr (lxc f4 (by decide)) (lxc x3 (by decide)))) g2) (CH_fs hC g2) ?_ (DF_lx (FS_tr (lxc e3 (by decide)) (FS_tr (lxc f4 (by decide)) (lxc x3 (by decide))))) g2 hm hbit' (Or.inl rfl)
        rw [FSf x3 0 (by decide) (by decide), gi_wi, if_pos ⟨rfl, rfl, rfl⟩]
  · rw [if_neg (show ¬ Cs (sg t T p) = 45 from fun w => s45 ((Cs_v _ (sg_lt hB p) 45 (by omega)).mp w)), if_neg (show ¬ Rs (sg t T p) = 45 from fun w => s45 ((Rs_v _ (sg_lt hB p) 45 (by omega)).mp w))]
    unfold fX4_readChange_J14 fX4_readChange_J37
    rw [if_pos (show (0 : Int32) = 0 from rfl)]
    obtain ⟨m1, m2⟩ := cMember hB h
    refine ok2_r (rLetter hB (AR_LR y1 hK.2.2.1) hK) (fun b hb' => ?_)
    obtain ⟨t1, t2, t3, t4⟩ := hb'
    have g2 : FS [2008, 2009, 2010, 2011] r b.2 := FS_tr g1 (lxr t4 (by decide))
    by_cases y : lw t T p ∧ q = p + 1
    rotate_left
    · have hW := t2 y
      rw [m2 y, Option.bind_some, if_pos (show (-1 : Int32) = -1 from rfl), hW.no, Option.bind_some, if_pos (show (0 : Int32) = 0 from rfl)]
      unfold fX10_readsChange_J118
      rw [hW.no, Option.bind_some, if_pos (show (0 : Int32) = 0 from rfl)]
      exact bad (r'' := r) (v := 1) h (DF_refl c) (krr g2 (by decide)) (by omega) (by omega) (w140 hW)
    obtain ⟨v1, hA2⟩ := t1 y
    have yl := y.1
    unfold lw at yl
    rw [m1 y, v1, Option.bind_some, if_neg (nIm1 (by omega)), hb, qRight hA2.2.1, Option.bind_some, if_neg n10]
    generalize hm' : sg t T p - 97 = m
    have hm : m < 26 := by omega
    rw [has_c B31 (by omega), has_r B31 (by omega), Option.bind_some, Option.bind_some]
    by_cases hbit : B.testBit m = true
    · rw [if_pos hbit, if_neg n10, if_neg n10, t3, show fX10_fails 2 (nI p) b.2 = some (wi b.2 10 0 9 (FL p 2)) from qFail (v := 2) hA2.2.1, Option.bind_some]
      have fW := FS_wf (v := FL p 2) (k := 10) (s := 9) (i := 0) (ks := [2009]) (by decide) (by decide) (FS_refl b.2)
      exact bad (r'' := r) (v := 2) h (DF_refl c) (FS_tr (krr g2 (by decide)) (krr fW (by decide))) (by omega) (by omega) (w140 (WR_of hB hA2.1 hA2.2.2 hK.2.1 hp (by omega)))
    have hbit' : B.testBit m = false := by simpa using hbit
    rw [if_neg hbit, if_pos (show (0 : Int32) = 0 from rfl), if_pos (show (0 : Int32) = 0 from rfl)]
    unfold fX10_readsChange_J118
    rw [qRight hA2.2.1, Option.bind_some, if_neg n10]
    by_cases i6 : i = 6
    · subst i6
      rw [if_neg n6, if_pos (show nI 6 = 6 from rfl), t3, show fX10_fails 3 (nI p) b.2 = some (wi b.2 10 0 9 (FL p 3)) from qFail (v := 3) hA2.2.1, Option.bind_some]
      have fW := FS_wf (v := FL p 3) (k := 10) (s := 9) (i := 0) (ks := [2009]) (by decide) (by decide) (FS_refl b.2)
      exact bad (r'' := r) (v := 3) h (DF_refl c) (FS_tr (krr g2 (by decide)) (krr fW (by decide))) (by omega) (by omega) (w140 (WR_of hB hA2.1 hA2.2.2 hK.2.1 hp (by omega)))
    have i6' : i < 6 := by omega
    rw [if_pos (c6 i i6'), if_neg (e6 i hi i6), set1 (by omega)]
    have f4 := FS_wf (v := nI (B ||| 2 ^ m)) (k := 4) (s := 6) (i := 0) (ks := [1406]) (by decide) (by decide) (FS_refl c)
    refine ok2_l (pass_LC hB (LC_fs h f4 (by decide))) (fun c5 h5 => ?_)
    obtain ⟨p5, q5, x1, x2, x3⟩ := h5
    have hK5 := x2.2.1
    have c56 : gi c5 4 0 6 = nI (B ||| 2 ^ m) := by rw [FSf x3 0 (by decide) (by decide), gi_wi, if_pos ⟨rfl, rfl, rfl⟩]
    have f5 : FS [1402, 1403, 1404, 1405, 1406] c c5 := FS_tr (lxc f4 (by decide)) (lxc x3 (by decide))
    rw [if_pos (show (0 : Int32) = 0 from rfl), x2.2.2.2.2.1]
    unfold fX10_readsChange_J140
    refine ok2_r (rMust hB (v := 62) ⟨q, hA2, x1⟩ hK5.1 (by omega)) (fun r4 hr4 => ?_)
    obtain ⟨u1, u2, u3⟩ := hr4
    have g4 : FS [2008, 2009, 2010, 2011] r r4 := FS_tr g2 (lxr u3 (by decide))
    by_cases s62 : sg t T p5 = 62
    rotate_left
    · have hW := u2 s62
      rw [if_neg (show ¬ Cs (sg t T p5) = 62 from fun w => s62 ((Cs_v _ (sg_lt hB p5) 62 (by omega)).mp w)), hW.no, Option.bind_some, if_pos (show (0 : Int32) = 0 from rfl)]
      exact bad (r'' := r) (v := 1) x2 (DF_lx f5) (krr g4 (by decide)) (by omega) (by omega) (w165 hW)
    have hA4 := u1 s62
    obtain ⟨w1, w2⟩ := sg_1 hK5 s62 (by omega) (by omega) (by omega)
    rw [if_pos (show Cs (sg t T p5) = 62 from (Cs_v _ (sg_lt hB p5) 62 (by omega)).mpr s62), qRight hA4.2.1, Option.bind_some, if_neg n10]
    refine ok2_l (pass_LC hB x2) (fun c6 h6 => ?_)
    obtain ⟨p6, q6, z1, z2, z3⟩ := h6
    rw [w1] at z1
    have hK6 := z2.2.1
    have f6 : FS [1402, 1403, 1404, 1405, 1406] c c6 := FS_tr f5 (lxc z3 (by decide))
    obtain ⟨m3, m4⟩ := cMember hB z2
    refine ok2_r (rLetter hB ⟨p5 + 1, hA4, z1⟩ hK6) (fun b6 hb6 => ?_)
    obtain ⟨j1, j2, j3, j4⟩ := hb6
    have g6 : FS [2008, 2009, 2010, 2011] r b6.2 := FS_tr g4 (lxr j4 (by decide))
    by_cases y2' : lw t T p6 ∧ q6 = p6 + 1
    rotate_left
    · have hW := j2 y2'
      rw [m4 y2', Option.bind_some, if_pos (show (-1 : Int32) = -1 from rfl)]
      exact bad (r'' := r) (v := 1) z2 (DF_lx f6) (krr g6 (by decide)) (by omega) (by omega) (w165 hW)
    obtain ⟨v3, hA6⟩ := j1 y2'
    have yl2 := y2'.1
    unfold lw at yl2
    rw [m3 y2', v3, Option.bind_some, if_neg (nIm1 (by omega))]
    refine ok2_l (pass_LC hB z2) (fun c7 h7 => ?_)
    obtain ⟨p7, q7, o1, o2, o3⟩ := h7
    have f7 : FS [1402, 1403, 1404, 1405, 1406] c c7 := FS_tr f6 (lxc o3 (by decide))
    unfold fX10_readsChange_J165
    refine fin i6' o2 ⟨q6, hA6, o1⟩ (DU_fs hU f7 g6) (CH_fs hC g6) ?_ (DF_lx f7) g6 hm hbit' (Or.inr (zin_n (by omega) (by omega)))
    rw [FSf o3 0 (by decide) (by decide), FSf z3 0 (by decide) (by decide)]; exact c56
end LX
