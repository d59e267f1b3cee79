/-! orders, first, place -/
def CALLl (f g : zM → Option (Int64 × zM)) : Prop := ∀ c r, INV c r → ok2 (f c) (g r) (fun a b => a.1 = b.1 ∧ INV a.2 b.2)
/-- what stands over a type is a set that holds its parents -/
def OvS (n x S : Nat) (rw : Nat → Nat → Int32) : Prop := S < 2 ^ 12 ∧ S.testBit x = true ∧ (∀ u, S.testBit u = true → u < n) ∧ ∀ u, S.testBit u = true → ∀ k, k < pn rw u → S.testBit (pa rw u k) = true
theorem over_s {w d n x S : Nat} {c r : zM} (hW : WLI w d n c r) (hx : x < n) (hS : S < 4096) (h : ∀ y, S.testBit y = true ↔ Rch (fun u => rR r 38 0 u) 12 x y) : OvS n x S (fun u => rR r 38 0 u) := by
  have h12 := hW.n12
  have hpl := hW.pl
  refine ⟨hS, (h x).mpr (Or.inl rfl), fun u hu => ?_, fun u hu k hk => ?_⟩
  · have := Rch_le hpl 12 x hx ((h u).mp hu)
    omega
  · have key : ∀ f v, v < n → v ≤ f → Rch (fun u => rR r 38 0 u) f v u → Rch (fun u => rR r 38 0 u) (f + 1) v (pa (fun u => rR r 38 0 u) u k) := by
      intro f
      induction f with
      | zero =>
        intro v hv hf h1
        have e : u = v := h1
        subst e
        exact Or.inr ⟨k, hk, rfl⟩
      | succ f ih =>
        intro v hv hf h1
        rcases h1 with e | ⟨k', k1, k2⟩
        · subst e
          exact Or.inr ⟨k, hk, Or.inl rfl⟩
        · have := hpl v hv k' k1
          exact Or.inr ⟨k', k1, ih _ (by show zn (rR r 38 0 v (3 + k')) < n; omega) (by show zn (rR r 38 0 v (3 + k')) ≤ f; omega) k2⟩
    exact (h _).mpr ((Rch_up hpl 12 x hx (by omega)).mpr (key 12 x hx (by omega) ((h u).mp hu)))
theorem mkAT {w d n x S : Nat} {c r : zM} {A T : Nat → Nat} (hW : WLI w d n c r) (hS : OvS n x S (fun u => rR r 38 0 u)) (a1 : ∀ y, y < 12 → A y < 2 ^ 12) (a2 : ∀ y v, y < 12 → ((A y).testBit v = true ↔ Drr (fun u => rR r 38 0 u) S n y v)) (t1 : ∀ y, y < 12 → T y < 2 ^ 12) (t2 : ∀ y v, y < 12 → ((T y).testBit v = true ↔ TCl (Dcc (fun u => rR r 38 0 u) S n) y v)) : AT A T S := by
  obtain ⟨s1, s2, s3, s4⟩ := hS
  refine ⟨s1, fun y hy => ⟨a1 y hy, t1 y hy⟩, fun y v hy => ?_, fun y v hy hv => ?_⟩
  · rw [t2 y v hy, TCl_cr]
    constructor
    · refine TCl_m (fun a b h => TCl_b ?_)
      have h1 := Drr_12 hW (Nat.le_refl n) h
      exact ⟨h1.1, (a2 a b h1.1).mpr h⟩
    · exact TCl_m (fun a b h => TCl_b ((a2 a b h.1).mp h.2))
  · obtain ⟨u, u1, u2, k, k1, k2, k3⟩ := (a2 y v hy).mp hv
    refine ⟨by rw [k2]; exact s4 u u2 k k1, ?_⟩
    rcases k3 with q | ⟨q1, q2⟩
    · rw [q]; exact u2
    · rw [q2]; exact s4 u u2 (k - 1) (by omega)
theorem lgc {k : Nat} (h : k < 2147483648) : (lg_cmp (lN k) 0 = 0 ↔ k = 0) := by
  unfold lg_cmp
  rw [show (0 : Int64) = lN 0 from rfl]
  constructor
  · intro q
    by_cases z : k = 0
    · exact z
    · rw [if_pos ((lN_lt (by omega) h).mpr (by omega))] at q
      exact absurd q (by decide)
  · intro q
    subst q
    rw [if_neg (show ¬ lN 0 > lN 0 by decide), if_pos rfl]
theorem call_orders (v1 : Int32) : CALLl (fX9_orders v1) (fX10_orders v1) := fun c r hI => by
  obtain ⟨t, w, d, n, a, b, h, nx, hT, hW, hS, hH, hF⟩ := id hI
  have h12 := hW.n12
  unfold fX9_orders fX10_orders
  simp only [hW.1, hW.cTy, hW.rTy, Option.bind_some]
  by_cases t1 : zin v1 n = true ∧ gi r 38 0 (113 * zn v1) = 0
  rotate_left
  · rw [if_neg t1]; exact ok2_some ⟨rfl, hI⟩
  rw [if_pos t1, if_neg n10, if_neg n10]
  obtain ⟨x, hx, rfl, hx3⟩ := zin_e t1.1
  have t1' := t1.2
  rw [zn_n hx3] at t1'
  refine ok2_l (settle1 hI hW) (fun c1 h1 => ?_)
  obtain ⟨hI1, hW1, hO1⟩ := h1
  obtain ⟨S, b1, b2, b3, b4⟩ := over_eq hW1 hO1 hx t1'
  have hOv := over_s hW1 hx b1 b4
  have S0 : 0 < S := by
    by_cases q : S = 0
    · have := hOv.2.1
      rw [q] at this
      simp at this
    · omega
  rw [hW1.1, Option.bind_some, zo _ (by omega) (by omega), zn_n (by omega), b2, b3, Option.bind_some]
  refine ok2_l (prep hW1 hOv.1) (fun c2 h2 => ?_)
  obtain ⟨T, p1, p2, p3, p4⟩ := h2
  refine ok2_r (cw hW1 hOv.1 S0) (fun b5 h5 => ?_)
  obtain ⟨⟨A, q1, q2, q3⟩, q4⟩ := h5
  have hAT := mkAT hW1 hOv (fun y hy => (q2 y hy).1) q1 (fun y hy => (p1 y hy).1) p2
  have hI2 : INV c2 b5.2 := INV_r (INV_l hI1 p4 (rel_no (by decide))) q4 (rel_no (by decide))
  obtain ⟨o, ho⟩ := IsF_ex (fun y => (T y).testBit y = true) 12
  cases o with
  | none =>
    refine ok2_l (howM p1 hOv.1 p3 ho) (fun b6 h6 => ok2_some ⟨?_, INV_l hI2 h6.2 (rel_no (by decide))⟩)
    show b6.1 = b5.1
    rw [h6.1, q3, ways_eq hAT ho S S (Nat.le_refl _) hOv.1]
  | some y =>
    have e0 : Wy (Kb A) S = 0 := by
      by_cases z : Wy (Kb A) S = 0
      · exact z
      · exact absurd ho.2.1 ((ways_iff hAT).mp z y ho.1)
    unfold fX3_howMany
    rw [pX3_hasNone p1 ho, Option.bind_some, if_neg (show ¬ lfv (some y) = 0 from n10), Option.bind_some]
    refine ok2_some ⟨?_, hI2⟩
    show (0 : Int64) = b5.1
    rw [q3, e0]
    rfl
theorem qOver2 {w d n x S : Nat} {c r r' : zM} (hW : WLI w d n c r) (hx : x < n) (hx0 : gi r 38 0 (113 * x) = 0) (hS : fX10_overSet (nI x) r = some (nI S)) (hl : S < 4096) (h4 : ∀ y, S.testBit y = true ↔ Rch (fun u => rR r 38 0 u) 12 x y) (f : FS [52, 53] r r') : fX10_overSet (nI x) r' = some (nI S) := by
  have hW' : WLI w d n c r' := WLI_fs hW (FS_refl (ks := []) c) (by decide) f (by decide)
  obtain ⟨b, b1, b2, b3⟩ := qOverSet hW' hx (by rw [rR_u0, FSa f _ _ (by decide) (by decide)]; exact hx0)
  have e38 : (fun u => rR r' 38 0 u) = fun u => rR r 38 0 u := funext (fun u => rR_38 (fun s => FSa f 0 s (by decide) (by decide)) u)
  rw [e38] at b3
  have : b = S := Nat.eq_of_testBit_eq (fun y => by rw [Bool.eq_iff_iff, b3, h4])
  rw [b2, this]
theorem call_first (v1 v2 : Int32) : CALL (fX9_first v1 v2) (fX10_first v1 v2) := fun c r hI => by
  obtain ⟨t, w, d, n, a, b, h, nx, hT, hW, hS, hH, hF⟩ := id hI
  have h12 := hW.n12
  have hl := l31
  unfold fX9_first fX10_first
  simp only [hW.1, hW.cTy, hW.rTy, Option.bind_some]
  by_cases t1 : zin v1 n = true ∧ gi r 38 0 (113 * zn v1) = 0
  rotate_left
  · rw [if_neg t1]; exact ok2_some ⟨rfl, hI⟩
  rw [if_pos t1, if_neg n10, if_neg n10]
  obtain ⟨x, hx, rfl, hx3⟩ := zin_e t1.1
  have t1' := t1.2
  rw [zn_n hx3] at t1'
  refine ok2_l (settle1 hI hW) (fun c1 h1 => ?_)
  obtain ⟨hI1, hW1, hO1⟩ := h1
  obtain ⟨S, b1, b2, b3, b4⟩ := over_eq hW1 hO1 hx t1'
  have hOv := over_s hW1 hx b1 b4
  have S0 : 0 < S := by
    by_cases q : S = 0
    · have := hOv.2.1
      rw [q] at this
      simp at this
    · omega
  have pS := pc_12 S
  rw [hW1.1, Option.bind_some, zo _ (by omega) (by omega), zn_n (by omega), b2, b3, Option.bind_some, bc hOv.1, Option.bind_some, qIn (by omega), Option.bind_some]
  refine ok2_l (prep hW1 hOv.1) (fun c2 h2 => ?_)
  obtain ⟨T, p1, p2, p3, p4⟩ := h2
  have hI2 : INV c2 r := INV_l hI1 p4 (rel_no (by decide))
  unfold fX3_inFirst
  rw [p3, bc hOv.1, Option.bind_some]
  by_cases z : zin v2 (pc S) = true
  rotate_left
  · have e : (if v2 < 0 then some (-1 : Int32) else if nI (pc S) ≤ v2 then some (-1) else (fX3_hasNone c2).bind fun x2 => if x2 = 0 then (zloop (fX3_inFirst_L31 v2 c2) zF (0, -1, 0)).bind fun o6 => zcase o6 (fun y4 => some y4) fun r5 => some r5 else some (-1)) = some (-1) := by
      by_cases h0 : v2 < 0
      · rw [if_pos h0]
      · obtain ⟨j, hj, rfl⟩ := nI_of h0
        rw [if_neg h0, if_pos ((nIle (by omega) (by omega)).mpr (by
          have : ¬ j < pc S := fun q => z (zin_n q (by omega))
          omega))]
    rw [if_neg z, if_pos (show (0 : Int32) = 0 from rfl), e]
    exact ok2_some ⟨rfl, hI2⟩
  obtain ⟨k, hk, rfl, hk3⟩ := zin_e z
  rw [if_pos z, if_neg n10, if_neg (nI_pos (by omega)), if_neg (fun q => by have := (nIle (by omega) (by omega)).mp q; omega)]
  rw [Option.bind_some]
  refine ok2_r (cw hW1 hOv.1 S0) (fun b5 h5 => ?_)
  obtain ⟨⟨A, q1, q2, q3⟩, q4⟩ := h5
  have hAT := mkAT hW1 hOv (fun y hy => (q2 y hy).1) q1 (fun y hy => (p1 y hy).1) p2
  have hI3 : INV c2 b5.2 := INV_r hI2 q4 (rel_no (by decide))
  obtain ⟨o, ho⟩ := IsF_ex (fun y => (T y).testBit y = true) 12
  rw [pX3_hasNone p1 ho, Option.bind_some, q3]
  cases o with
  | some y =>
    have e0 : Wy (Kb A) S = 0 := by
      by_cases z : Wy (Kb A) S = 0
      · exact z
      · exact absurd ho.2.1 ((ways_iff hAT).mp z y ho.1)
    rw [if_neg (show ¬ lfv (some y) = 0 from n10), if_pos ((lgc (Wy_lt hOv.1)).mpr e0), Option.bind_some]
    exact ok2_some ⟨rfl, hI3⟩
  | none =>
    have en : Wy (Kb A) S ≠ 0 := (ways_iff hAT).mpr ho
    rw [if_pos (show lfv none = 0 from rfl), if_neg (fun q => en ((lgc (Wy_lt hOv.1)).mp q)), qOver2 hW1 hx t1' b3 b1 b4 q4, Option.bind_some]
    have main : ok2 (zloop (fX3_inFirst_L31 (nI k) c2) zF (0, -1, 0)) (zloop (fX10_first_L57 (nI k) (nI S) b5.2) zF (0, -1, 0)) (fun o o' => ∃ v, o = Sum.inl v ∧ o' = Sum.inl v) := by
      refine ok2_for (fun i s t => s = t ∧ ∃ B l, s = (nI B, l, nI i) ∧ B < 2 ^ 12 ∧ (∀ v, B.testBit v = true → S.testBit v = true) ∧ dcl A B ∧ pc B = i) (a := 0) (b := k + 1) (by omega) (by unfold zF; omega) (by unfold zF; omega) ⟨rfl, 0, -1, rfl, by omega, fun v hv => by simp at hv, fun y hy => by simp at hy, by decide⟩ (fun i s t _ hi hI4 => ?_) (fun s t hI4 => ?_)
      · obtain ⟨rfl, B, l, rfl, hB, hsub, hd, hp⟩ := hI4
        have hne : B ≠ S := fun q => by rw [q] at hp; omega
        obtain ⟨v0, v01, v02, v03⟩ := sub_ne hB hOv.1 hsub hne
        obtain ⟨u0, u01, u02, u03, u04⟩ := next_ex hAT ho (T v0) v0 (Nat.le_refl _) v01 v02 v03
        obtain ⟨o, hoo⟩ := IsF_ex (fun t => S.testBit t = true ∧ B.testBit t = false ∧ Kb T t B = true) 12
        cases o with
        | none => exact absurd ⟨u02, u03, (Kb_t (p1 u0 u01).1 hB).mpr u04⟩ (hoo u0 u01)
        | some u =>
          obtain ⟨u1, ⟨u2, u3, u4⟩, u5⟩ := hoo
          have eqk : ∀ t, t < 12 → (Kb T t B = true ↔ dif (A t) B = 0) := fun t ht => by
            rw [Kb_t (p1 t ht).1 hB, dif0 (q2 t ht).1 hB]
            exact ⟨fun hh y hy => hh y (AT_sub hAT ht hy), fun hh y hy => AT_cl2 hAT hd ht hh hy⟩
          have ec : fX3_leastThatCanFollow (nI B) c2 = some (nI u) := by
            unfold fX3_leastThatCanFollow
            refine zfst_b (P := fun t => S.testBit t = true ∧ B.testBit t = false ∧ Kb T t B = true) (o := some u) (R := 12) (g := fun k => nI k) (by omega) ⟨u1, ⟨u2, u3, u4⟩, u5⟩ rfl (fun t ht => ?_) ?_
            · unfold fX3_leastThatCanFollow_L2
              rw [l12, if_neg (fun q => by have := (nIle (by omega) (by omega)).mp q; omega), pX3_canFollow p1 hOv.1 p3 hB ht, Option.bind_some, nI_1]
              exact ⟨fun y => by rw [if_pos y, if_neg n10], fun y => by rw [if_neg y, if_pos rfl]⟩
            · unfold fX3_leastThatCanFollow_L2
              rw [l12, if_pos (Int32.le_refl _)]
          have er : ok (zloop (fX10_first_L66 (nI k) (nI S) (nI B) (nI i) b5.2) zF 0) (fun o => o = Sum.inl (nI u)) := by
            have d1 : dif S B ≤ S := dif_le
            refine ok_for (fun j s => s = nI j) (a := 0) (b := u) (by omega) (by unfold zF; omega) rfl (fun j s _ hj hI5 => ?_) (fun s hI5 => ?_)
            · subst hI5
              have d2 : dif (A j) B ≤ A j := dif_le
              have aj := (q2 j (by omega)).1
              unfold fX10_first_L66
              rw [andn (by omega) (by omega), has_r (by omega) (by omega), Option.bind_some, dif_tb (by omega) (by omega), zo _ (by omega) (by omega), zn_n (by omega), (q2 j (by omega)).2, andn (by omega) (by omega), nI_1]
              by_cases y : (S.testBit j && !B.testBit j) = true
              · rw [if_pos y, if_neg n10]
                rw [Bool.and_eq_true] at y
                have y2 : B.testBit j = false := by simpa using y.2
                refine ok_f (fun w => u5 j hj ⟨y.1, y2, (eqk j (by omega)).mpr ((nIeq (b := 0) (by omega) (by omega)).mp w)⟩) (ok_some (Or.inl ⟨_, rfl, rfl⟩))
              · rw [if_neg y, if_pos (show (0 : Int32) = 0 from rfl)]
                exact ok_some (Or.inl ⟨_, rfl, rfl⟩)
            · subst hI5
              have d2 : dif (A u) B ≤ A u := dif_le
              have aj := (q2 u u1).1
              unfold fX10_first_L66
              rw [andn (by omega) (by omega), has_r (by omega) (by omega), Option.bind_some, dif_tb (by omega) (by omega), zo _ (by omega) (by omega), zn_n (by omega), (q2 u u1).2, andn (by omega) (by omega), u2, u3, if_pos (show (true && !false) = true by decide), if_neg n10, (eqk u u1).mp u4, if_pos (show nI 0 = 0 from rfl)]
              exact ok_some ⟨_, rfl, rfl⟩
          unfold fX3_inFirst_L31 fX10_first_L57
          dsimp only
          rw [ec, Option.bind_some, if_neg (nIm1 (by omega)), set1 (by omega), nI_1]
          refine ok2_fl (fun q => by have := (nIlt (by omega) (by omega)).mp q; omega) (ok2_fr' (fun q => by have := (nIlt (by omega) (by omega)).mp q; omega) ?_)
          obtain ⟨o', eo', rfl⟩ := er
          rw [eo']
          show ok2 _ (some (Sum.inl (nI B ||| 1 <<< (nI u &&& 31), nI u, nI (i + 1)))) _
          rw [set1 (by omega)]
          have tu : (B ||| 2 ^ u).testBit u = true := by rw [tb_set]; simp
          have hB' := or_lt hB (p12 u1)
          refine ok2_some (Or.inl ⟨_, _, rfl, rfl, rfl, B ||| 2 ^ u, nI u, rfl, hB', fun v hv => ?_, fun y hy v hv => ?_, ?_⟩)
          · rw [tb_set, Bool.or_eq_true, decide_eq_true_iff] at hv
            rcases hv with q | q
            · exact hsub v q
            · rw [← q]; exact u2
          · rw [tb_set, Bool.or_eq_true, decide_eq_true_iff] at hy
            rw [tb_set, Bool.or_eq_true]
            rcases hy with q | q
            · exact Or.inl (hd y q v hv)
            · subst q
              exact Or.inl ((dif0 (q2 u u1).1 hB).mp ((eqk u u1).mp u4) v hv)
          · have := pc_d hB' u1 tu
            rw [d_or hB u1 u3] at this
            omega
      · obtain ⟨rfl, B, l, rfl, -⟩ := hI4
        unfold fX3_inFirst_L31 fX10_first_L57
        dsimp only
        have y := (nIlt (a := k) (b := k + 1) (by omega) (by omega)).mpr (by omega)
        rw [if_pos y, if_pos y]
        exact ok2_some ⟨_, _, rfl, rfl, l, rfl, rfl⟩
    obtain ⟨o, o', e1, e2, v, rfl, rfl⟩ := main
    rw [e1, e2]
    exact ok2_some ⟨rfl, hI3⟩
