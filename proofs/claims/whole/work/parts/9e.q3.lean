/-! unit, chain, lacks, over -/
theorem ok2_eqm {f : Option Int32} {g : Option Int32} {c r : zM} (h : ok2 f g (fun a b => a = b)) (hI : INV c r) : ok2 (f.bind (fun x => some (x, c))) (g.bind (fun x => some (x, r))) (fun a b => a.1 = b.1 ∧ INV a.2 b.2) := by
  obtain ⟨a, b, rfl, rfl, rfl⟩ := h
  exact ok2_some ⟨rfl, hI⟩
theorem call_unit (v1 v2 : Int32) : CALL (fX9_unit v1 v2) (fX10_unit v1 v2) := fun c r hI => by
  obtain ⟨t, w, d, n, a, b, h, nx, hT, hW, hS, hH, hF⟩ := id hI
  have h12 := hW.n12
  unfold fX9_unit fX10_unit
  simp only [hW.1, hW.cUn, hW.rUn, Option.bind_some]
  by_cases t1 : zin v1 n = true
  rotate_left
  · rw [if_neg t1]; exact ok2_some ⟨rfl, hI⟩
  rw [if_pos t1, if_neg n10, if_neg n10]
  obtain ⟨x, hx, rfl, hx3⟩ := zin_e t1
  refine ok2_bind (lay3 hI hW) (fun c1 r1 h1 => ?_)
  obtain ⟨hI1, hW1, hR, -⟩ := h1
  obtain ⟨p, p4, pc, pr, -⟩ := hW1.par hx
  obtain ⟨p', p4', pc', pr', -⟩ := hW1.use hx
  rw [hW1.1, Option.bind_some, zo _ (by omega) (by omega), zn_n (by omega)]
  by_cases q0 : v2 = 0
  · rw [if_pos q0, if_pos q0, l113, pk_mul, l0, nI_add, zo _ (by omega) (by omega), zn_n (by omega), (hW1.kd hx).1, Nat.add_zero]
    rcases (hW1.kd hx).2 with z | z
    · rw [z, if_pos (show (0 : Int32) = nI 0 from rfl)]; exact ok2_some ⟨rfl, hI1⟩
    · rw [z, if_neg (show ¬ (1 : Int32) = nI 0 from n10)]; exact ok2_some ⟨rfl, hI1⟩
  rw [if_neg q0, if_neg q0]
  refine ok2_if Iff.rfl (fun _ _ => ?_) (fun _ _ => ?_)
  · rw [l113, pk_mul, nI_1, zo _ (by omega) (by omega), zn_n (by omega)]
    have h1 := (hW1.ru hx).1.2.2.2
    rw [uC_7 (by omega), rR_0 (by omega)] at h1
    exact ok2_some ⟨h1, hI1⟩
  refine ok2_if Iff.rfl (fun _ _ => ?_) (fun _ _ => ?_)
  · rw [qParents (by omega), Option.bind_some, pc, pr]
    exact ok2_some ⟨rfl, hI1⟩
  refine ok2_if Iff.rfl (fun _ _ => ?_) (fun _ _ => ?_)
  · rw [qUses (by omega), Option.bind_some, pc', pr']
    exact ok2_some ⟨rfl, hI1⟩
  refine ok2_if Iff.rfl (fun _ _ => ok2_eqm (own_bits hW1 hx).1 hI1) (fun _ _ => ?_)
  refine ok2_if Iff.rfl (fun _ _ => ok2_eqm (own_bits hW1 hx).2 hI1) (fun _ _ => ?_)
  refine ok2_if Iff.rfl (fun _ _ => ok2_eqm ⟨_, _, hR.ca h12 hx, hR.ba h12 hx, rfl⟩ hI1) (fun _ _ => ?_)
  refine ok2_if Iff.rfl (fun _ _ => ok2_eqm ⟨_, _, hR.bc (k := 1) h12 hx (by omega), hR.br (k := 1) h12 hx (by omega) (by omega), rfl⟩ hI1) (fun _ _ => ?_)
  refine ok2_if Iff.rfl (fun _ _ => ok2_eqm ⟨_, _, hR.bc (k := 2) h12 hx (by omega), hR.br (k := 2) h12 hx (by omega) (by omega), rfl⟩ hI1) (fun _ _ => ?_)
  refine ok2_if Iff.rfl (fun _ _ => ok2_eqm ⟨_, _, hR.bc (k := 3) h12 hx (by omega), hR.br (k := 3) h12 hx (by omega) (by omega), rfl⟩ hI1) (fun _ _ => ok2_some ⟨rfl, hI1⟩)
theorem call_chain (v1 v2 v3 : Int32) : CALL (fX9_chain v1 v2 v3) (fX10_chain v1 v2 v3) := fun c r hI => by
  obtain ⟨t, w, d, n, a, b, h, nx, hT, hW, hS, hH, hF⟩ := id hI
  have h12 := hW.n12
  unfold fX9_chain fX10_chain
  simp only [hW.1, hW.cTy, hW.rTy, Option.bind_some, pX9_isLetter, qIn26]
  by_cases t1 : zin v1 n = true ∧ gi r 38 0 (113 * zn v1) = 0
  rotate_left
  · rw [if_neg t1]; exact ok2_some ⟨rfl, hI⟩
  rw [if_pos t1, if_neg n10, if_neg n10]
  by_cases t2 : zin v2 26 = true
  rotate_left
  · rw [if_neg t2]; exact ok2_some ⟨rfl, hI⟩
  rw [if_pos t2, if_neg n10, if_neg n10]
  refine ok2_if Iff.rfl (fun hv _ => ?_) (fun _ _ => ok2_some ⟨rfl, hI⟩)
  obtain ⟨x, hx, rfl, hx3⟩ := zin_e t1.1
  obtain ⟨m, hm, rfl, hm3⟩ := zin_e t2
  refine ok2_bind (lay3 hI hW) (fun c1 r1 h1 => ?_)
  obtain ⟨hI1, hW1, hR, -⟩ := h1
  obtain ⟨L, L12, e1, e2, e3⟩ := hR.ln hx
  rw [zo _ (by omega) (by omega), zo _ (by omega) (by omega), zn_n (by omega), e1, e2]
  refine ok2_if Iff.rfl (fun _ _ => ok2_some ⟨rfl, hI1⟩) (fun _ _ => ?_)
  refine ok2_bind (P := fun o o' => (∃ y, o = Sum.inl y ∧ o' = Sum.inl y) ∨ ∃ y, o = Sum.inr (y, c1) ∧ o' = Sum.inr (y, r1)) ?_ (fun o o' ho => ?_)
  · refine ok2_for (fun i s t => s = t ∧ s.2 = nI i) (a := 0) (b := L) (by omega) (by unfold zF; omega) (by unfold zF; omega) ⟨rfl, rfl⟩ (fun i s t _ hi hI2 => ?_) (fun s t hI2 => ?_)
    · obtain ⟨s1, s2⟩ := s
      obtain ⟨rfl, h2⟩ := hI2
      dsimp only at h2
      subst h2
      obtain ⟨t', t'1, f1, f2⟩ := e3 i hi
      unfold fX9_chain_L49 fX10_chain_L46
      dsimp only
      rw [zo _ (by omega) (by omega), zo _ (by omega) (by omega), zn_n (by omega), e1, e2, l12, pk_mul, nI_add, zo _ (by omega) (by omega), zo _ (by omega) (by omega), zo _ (by omega) (by omega), zn_n (by omega), zn_n (by omega), f1, f2, hR.kc h12 t'1 hm, hR.kr h12 t'1 hm, Option.bind_some, Option.bind_some, nI_1]
      refine ok2_fl (fun q => by have := (nIle (by omega) (by omega)).mp q; omega) (ok2_fr' (fun q => by have := (nIle (by omega) (by omega)).mp q; omega) ?_)
      refine ok2_if Iff.rfl (fun _ _ => ?_) (fun _ _ => ok2_some (Or.inl ⟨_, _, rfl, rfl, rfl, rfl⟩))
      exact ok2_if Iff.rfl (fun _ _ => ok2_some (Or.inr ⟨_, _, rfl, rfl, Or.inr ⟨_, rfl, rfl⟩⟩)) (fun _ _ => ok2_some (Or.inl ⟨_, _, rfl, rfl, rfl, rfl⟩))
    · obtain ⟨s1, s2⟩ := s
      obtain ⟨rfl, h2⟩ := hI2
      dsimp only at h2
      subst h2
      unfold fX9_chain_L49 fX10_chain_L46
      dsimp only
      simp (disch := omega) only [zo, zn_n]
      rw [e1, e2, if_pos (Int32.le_refl _), if_pos (Int32.le_refl _)]
      exact ok2_some ⟨_, _, rfl, rfl, Or.inl ⟨s1, rfl, rfl⟩⟩
  · rcases ho with ⟨y, rfl, rfl⟩ | ⟨y, rfl, rfl⟩
    · exact ok2_if Iff.rfl (fun _ _ => ok2_some ⟨rfl, hI1⟩) (fun _ _ => ok2_some ⟨rfl, hI1⟩)
    · exact ok2_some ⟨rfl, hI1⟩
/-- along a line -/
theorem along2 {n x k : Nat} {c r : zM} (hR : RFL n c r) (h12 : n ≤ 12) (hx : x < n) (hk : k < 5) (hk0 : 0 < k) : ok2 (fX9_bitsAlongLine (nI x) (nI k) c) (fX10_along (nI x) (nI k) r) (fun a b => a = b) := by
  obtain ⟨L, L12, e1, e2, e3⟩ := hR.ln hx
  unfold fX9_bitsAlongLine fX10_along
  refine ok2_bind (P := fun o o' => ∃ y, o = Sum.inl y ∧ o' = Sum.inl y) ?_ (fun o o' ho => ?_)
  · refine ok2_for (fun i s t => s = t ∧ s.2 = nI i) (a := 0) (b := L) (by omega) (by unfold zF; omega) (by unfold zF; omega) ⟨rfl, rfl⟩ (fun i s t _ hi hI2 => ?_) (fun s t hI2 => ?_)
    · obtain ⟨s1, s2⟩ := s
      obtain ⟨rfl, h2⟩ := hI2
      dsimp only at h2
      subst h2
      obtain ⟨t', t'1, f1, f2⟩ := e3 i hi
      unfold fX9_bitsAlongLine_L5 fX10_along_L5
      dsimp only
      rw [zo _ (by omega) (by omega), zo _ (by omega) (by omega), zn_n (by omega), e1, e2, l12, pk_mul, nI_add, zo _ (by omega) (by omega), zo _ (by omega) (by omega), zo _ (by omega) (by omega), zn_n (by omega), zn_n (by omega), f1, f2, hR.bc h12 t'1 hk, hR.br h12 t'1 hk hk0, Option.bind_some, nI_1]
      refine ok2_fl (fun q => by have := (nIle (by omega) (by omega)).mp q; omega) (ok2_fr' (fun q => by have := (nIle (by omega) (by omega)).mp q; omega) ?_)
      exact ok2_some (Or.inl ⟨_, _, rfl, rfl, rfl, rfl⟩)
    · obtain ⟨s1, s2⟩ := s
      obtain ⟨rfl, h2⟩ := hI2
      dsimp only at h2
      subst h2
      unfold fX9_bitsAlongLine_L5 fX10_along_L5
      dsimp only
      simp (disch := omega) only [zo, zn_n]
      rw [e1, e2, if_pos (Int32.le_refl _), if_pos (Int32.le_refl _)]
      exact ok2_some ⟨_, _, rfl, rfl, s1, rfl, rfl⟩
  · obtain ⟨y, rfl, rfl⟩ := ho
    exact ok2_some rfl
theorem lacks2 {n x : Nat} {c r : zM} (hR : RFL n c r) (h12 : n ≤ 12) (hx : x < n) : ok2 (fX9_lackedBits (nI x) c) (fX10_lacksOf (nI x) r) (fun a b => a = b) := by
  unfold fX9_lackedBits fX10_lacksOf
  refine ok2_bind (along2 (k := 2) hR h12 hx (by omega) (by omega)) (fun a1 b1 h1 => ?_)
  refine ok2_bind (along2 (k := 1) hR h12 hx (by omega) (by omega)) (fun a2 b2 h2 => ?_)
  refine ok2_bind (along2 (k := 3) hR h12 hx (by omega) (by omega)) (fun a3 b3 h3 => ?_)
  subst h1; subst h2; subst h3
  exact ok2_some rfl
theorem call_lacks (v1 : Int32) : CALL (fX9_lacks v1) (fX10_lacks v1) := fun c r hI => by
  obtain ⟨t, w, d, n, a, b, h, nx, hT, hW, hS, hH, hF⟩ := id hI
  have h12 := hW.n12
  unfold fX9_lacks fX10_lacks
  simp only [hW.1, hW.cTy, hW.rTy, Option.bind_some]
  by_cases t1 : zin v1 n = true ∧ gi r 38 0 (113 * zn v1) = 0
  rotate_left
  · rw [if_neg t1]; exact ok2_some ⟨rfl, hI⟩
  rw [if_pos t1, if_neg n10, if_neg n10]
  obtain ⟨x, hx, rfl, hx3⟩ := zin_e t1.1
  refine ok2_bind (lay3 hI hW) (fun c1 r1 h1 => ?_)
  obtain ⟨hI1, hW1, hR, -⟩ := h1
  obtain ⟨L, L12, e1, e2, e3⟩ := hR.ln hx
  rw [zo _ (by omega) (by omega), zo _ (by omega) (by omega), zn_n (by omega), e1, e2]
  exact ok2_if Iff.rfl (fun _ _ => ok2_some ⟨rfl, hI1⟩) (fun _ _ => ok2_eqm (lacks2 hR h12 hx) hI1)
/-! over: the reference goes down from the type, and takes all that is told -/
theorem qOverSet {w d n x : Nat} {c r : zM} (hW : WLI w d n c r) (hx : x < n) (hx0 : rR r 38 0 x 0 = 0) : ∃ b, b < 4096 ∧ fX10_overSet (nI x) r = some (nI b) ∧ ∀ y, b.testBit y = true ↔ Rch (fun u => rR r 38 0 u) 12 x y := by
  have h12 := hW.n12
  have hpl := hW.pl
  unfold fX10_overSet
  rw [sh1 (by omega)]
  -- behind v steps: all that is reached from x by ways whose places but the last stand at x - v or behind
  have h : ok (zloop (fX10_overSet_L6 r) zF (nI (2 ^ x), nI x)) (fun o => ∃ b, o = Sum.inl (nI b) ∧ b < 4096 ∧ (∀ y, b.testBit y = true → Rch (fun u => rR r 38 0 u) 12 x y) ∧ b.testBit x = true ∧ ∀ v, v ≤ x → b.testBit v = true → ∀ k, k < zn (rR r 38 0 v 2) → b.testBit (zn (rR r 38 0 v (3 + k))) = true) := by
    have tr : ∀ y z, Rch (fun u => rR r 38 0 u) 12 x y → y < n → (∃ k, k < zn (rR r 38 0 y 2) ∧ z = zn (rR r 38 0 y (3 + k))) → Rch (fun u => rR r 38 0 u) 12 x z := by
      have key : ∀ f v y z, v < n → v ≤ f → Rch (fun u => rR r 38 0 u) f v y → y < n → (∃ k, k < zn (rR r 38 0 y 2) ∧ z = zn (rR r 38 0 y (3 + k))) → Rch (fun u => rR r 38 0 u) (f + 1) v z := by
        intro f
        induction f with
        | zero =>
          intro v y z hv hf h1 h2 h3
          have e : y = v := h1
          obtain ⟨k, k1, k2⟩ := h3
          subst e
          exact Or.inr ⟨k, k1, k2⟩
        | succ f ih =>
          intro v y z hv hf h1 h2 h3
          rcases h1 with e | ⟨k, k1, k2⟩
          · obtain ⟨k, k1, k2⟩ := h3
            subst e
            have := hpl y h2 k k1
            refine Or.inr ⟨k, k1, ?_⟩
            exact Or.inl k2
          · have := hpl v hv k k1
            exact Or.inr ⟨k, k1, ih _ y z (by show zn (rR r 38 0 v (3 + k)) < n; omega) (by show zn (rR r 38 0 v (3 + k)) ≤ f; omega) k2 h2 h3⟩
      intro y z h1 h2 h3
      have := key 12 x y z hx (by omega) h1 h2 h3
      exact (Rch_up hpl 12 x hx (by omega)).mpr this
    refine ok_loop (I := fun m s => ∃ b, s.1 = nI b ∧ b < 4096 ∧ m ≤ x + 1 ∧ s.2 = (if m = 0 then -1 else nI (m - 1)) ∧ (∀ y, b.testBit y = true → Rch (fun u => rR r 38 0 u) 12 x y) ∧ b.testBit x = true ∧ ∀ v, m ≤ v → v ≤ x → b.testBit v = true → ∀ k, k < zn (rR r 38 0 v 2) → b.testBit (zn (rR r 38 0 v (3 + k))) = true) (fun m s hI => ?_) zF (x + 1) _ ⟨2 ^ x, rfl, p12 (by omega), by omega, rfl, fun y hy => ?_, ?_, fun v h1 h2 => by omega⟩ (by unfold zF; omega)
    · obtain ⟨s1, s2⟩ := s
      obtain ⟨b, e1, b1, m1, e2, b2, b3, b4⟩ := hI
      dsimp only at e1 e2
      subst e1; subst e2
      unfold fX10_overSet_L6
      dsimp only
      by_cases hm : m = 0
      · subst hm
        rw [if_pos rfl, if_pos (by decide)]
        exact ok_some (Or.inr ⟨_, rfl, b, rfl, b1, b2, b3, fun v hv => b4 v (by omega) hv⟩)
      · rw [if_neg hm, if_neg (nI_pos (by omega))]
        have hv : m - 1 < n := by omega
        obtain ⟨p, p4, pc, pr, pk⟩ := hW.par hv
        have e2' : rR r 38 0 (m - 1) 2 = nI p := by rw [rR_0 (by omega)]; exact pr
        have inner : ok (zloop (fX10_overSet_L13 (nI (m - 1)) r) zF (nI b, 0)) (fun o => ∃ b', o = Sum.inl (nI b') ∧ b' < 4096 ∧ (∀ y, b'.testBit y = true ↔ (b.testBit y = true ∨ (b.testBit (m - 1) = true ∧ ∃ k, k < p ∧ y = zn (rR r 38 0 (m - 1) (3 + k)))))) := by
          refine ok_for (fun i s => s.2 = nI i ∧ ∃ b', s.1 = nI b' ∧ b' < 4096 ∧ (i = 0 → b' = b) ∧ (∀ y, b'.testBit y = true ↔ (b.testBit y = true ∨ (b.testBit (m - 1) = true ∧ ∃ k, k < i ∧ y = zn (rR r 38 0 (m - 1) (3 + k))))) ∧ (0 < i → b.testBit (m - 1) = true)) (a := 0) (b := p) (by omega) (by unfold zF; omega) ⟨rfl, b, rfl, b1, fun _ => rfl, fun y => ⟨fun q => Or.inl q, fun q => q.elim id (fun ⟨_, k, hk, _⟩ => by omega)⟩, fun q => by omega⟩ (fun i s _ hi hI2 => ?_) (fun s hI2 => ?_)
          · obtain ⟨s1, s2⟩ := s
            obtain ⟨f1, b', f2, f3, f4, f5, f6⟩ := hI2
            dsimp only at f1 f2
            subst f1; subst f2
            unfold fX10_overSet_L13
            dsimp only
            have tbv : b'.testBit (m - 1) = true ↔ b.testBit (m - 1) = true := by
              rw [f5]
              constructor
              · rintro (q | ⟨q, -⟩) <;> exact q
              · exact fun q => Or.inl q
            rw [qParents (by omega), Option.bind_some, pr, has_r (by omega) (by omega), Option.bind_some]
            refine ok_f (fun q => by have := (nIle (by omega) (by omega)).mp q; omega) ?_
            obtain ⟨-, q, q1, q2, q3⟩ := pk i hi
            have e3 : rR r 38 0 (m - 1) (3 + i) = nI q := by rw [rR_0 (by omega)]; exact q2
            by_cases z : b.testBit (m - 1) = true
            · rw [if_pos (tbv.mpr z), if_neg n10, qParentOf (by omega) (by omega), Option.bind_some, q2, set1 (by omega), nI_1]
              refine ok_some (Or.inl ⟨_, rfl, rfl, b' ||| 2 ^ q, rfl, or_lt (k := 12) f3 (p12 (by omega)), fun q => by omega, fun y => ?_, fun _ => z⟩)
              rw [tb_set, Bool.or_eq_true, f5, decide_eq_true_iff]
              constructor
              · rintro ((y1 | ⟨y1, k, k1, k2⟩) | y1)
                · exact Or.inl y1
                · exact Or.inr ⟨y1, k, by omega, k2⟩
                · exact Or.inr ⟨z, i, by omega, by rw [e3, zn_n (by omega)]; exact y1.symm⟩
              · rintro (y1 | ⟨y1, k, k1, k2⟩)
                · exact Or.inl (Or.inl y1)
                · by_cases ek : k = i
                  · subst ek
                    rw [e3, zn_n (by omega)] at k2
                    exact Or.inr k2.symm
                  · exact Or.inl (Or.inr ⟨y1, k, by omega, k2⟩)
            · have i0 : i = 0 := by
                by_cases q : i = 0
                · exact q
                · exact absurd (f6 (by omega)) z
              have eb := f4 i0
              subst eb
              rw [if_neg z, if_pos (show (0 : Int32) = 0 from rfl)]
              exact ok_some (Or.inr ⟨_, rfl, b', rfl, f3, fun y => ⟨fun q => Or.inl q, fun q => q.elim id (fun ⟨q, _⟩ => absurd q z)⟩⟩)
          · obtain ⟨s1, s2⟩ := s
            obtain ⟨f1, b', f2, f3, f4, f5, f6⟩ := hI2
            dsimp only at f1 f2
            subst f1; subst f2
            unfold fX10_overSet_L13
            dsimp only
            rw [qParents (by omega), Option.bind_some, pr]
            exact ok_t (Int32.le_refl _) (ok_some ⟨_, rfl, b', rfl, f3, f5⟩)
        obtain ⟨o, eo, b', rfl, c1, c2⟩ := inner
        rw [eo]
        refine ok_some (Or.inl ⟨_, m - 1, rfl, by omega, b', rfl, c1, by omega, ?_, fun y hy => ?_, (c2 x).mpr (Or.inl b3), fun v h1 h2 h3 k hk => ?_⟩)
        · dsimp only
          by_cases q : m - 1 = 0
          · rw [q, if_pos rfl]; decide
          · rw [if_neg q, show m - 1 = m - 1 - 1 + 1 by omega, pk_m1, show m - 1 - 1 + 1 - 1 = m - 1 - 1 by omega]
        · rcases (c2 y).mp hy with q | ⟨q, k, k1, k2⟩
          · exact b2 y q
          · exact tr (m - 1) y (b2 _ q) hv ⟨k, by rw [e2', zn_n (by omega)]; exact k1, k2⟩
        · rcases (c2 v).mp h3 with q | ⟨q, k', k1, k2⟩
          · by_cases ev : v = m - 1
            · subst ev
              rw [e2', zn_n (by omega)] at hk
              exact (c2 _).mpr (Or.inr ⟨q, k, hk, rfl⟩)
            · exact (c2 _).mpr (Or.inl (b4 v (by omega) h2 q k hk))
          · have := hpl (m - 1) hv k' (by rw [e2', zn_n (by omega)]; exact k1)
            omega
    · rw [Nat.testBit_two_pow, decide_eq_true_iff] at hy
      exact Or.inl hy.symm
    · rw [Nat.testBit_two_pow, decide_eq_true_iff]
  obtain ⟨o, e, b, rfl, b1, b2, b3, b4⟩ := h
  rw [e]
  refine ⟨b, b1, rfl, fun y => ⟨b2 y, fun q => ?_⟩⟩
  have key : ∀ f v, v ≤ x → b.testBit v = true → Rch (fun u => rR r 38 0 u) f v y → b.testBit y = true := by
    intro f
    induction f with
    | zero =>
      intro v h1 h2 h3
      have e : y = v := h3
      rw [e]; exact h2
    | succ f ih =>
      intro v h1 h2 h3
      rcases h3 with e | ⟨k, k1, k2⟩
      · rw [e]; exact h2
      · have := hpl v (by omega) k k1
        exact ih _ (by show zn (rR r 38 0 v (3 + k)) ≤ x; omega) (b4 v h1 h2 k k1) k2
  exact key 12 x (by omega) b3 q
def CALLq (f : zM → Option (Int32 × zM)) (g : zM → Option Int32) : Prop := ∀ c r, INV c r → ok2 (f c) (g r) (fun a b => a.1 = b ∧ INV a.2 r)
theorem over_eq {w d n x : Nat} {c r : zM} (hW : WLI w d n c r) (hO : OVR n c r) (hx : x < n) (hx0 : gi r 38 0 (113 * x) = 0) : ∃ b, b < 4096 ∧ gi c 22 0 x = nI b ∧ fX10_overSet (nI x) r = some (nI b) ∧ ∀ y, b.testBit y = true ↔ Rch (fun u => rR r 38 0 u) 12 x y := by
  have hx1 : rR r 38 0 x 0 = 0 := by rw [rR_u0]; exact hx0
  obtain ⟨b, b1, b2, b3⟩ := qOverSet hW hx hx1
  obtain ⟨b', c1, c2, c3⟩ := hO x hx hx1
  have : b' = b := Nat.eq_of_testBit_eq (fun y => by rw [Bool.eq_iff_iff, c3, b3])
  subst this
  exact ⟨b', b1, c2, b2, b3⟩
theorem call_over (v1 : Int32) : CALLq (fX9_over v1) (fX10_over v1) := fun c r hI => by
  obtain ⟨t, w, d, n, a, b, h, nx, hT, hW, hS, hH, hF⟩ := id hI
  have h12 := hW.n12
  unfold fX9_over fX10_over
  simp only [hW.1, hW.cTy, hW.rTy, Option.bind_some]
  by_cases t1 : zin v1 n = true ∧ gi r 38 0 (113 * zn v1) = 0
  rotate_left
  · rw [if_neg t1]; exact ok2_some ⟨rfl, hI⟩
  rw [if_pos t1, if_neg n10, if_neg n10]
  obtain ⟨x, hx, rfl, hx3⟩ := zin_e t1.1
  have t1' := t1.2
  rw [zn_n hx3] at t1'
  refine ok2_l (settle1 hI hW) (fun c1 h1 => ?_)
  obtain ⟨b', -, b2, b3, -⟩ := over_eq h1.2.1 h1.2.2 hx t1'
  rw [zo _ (by omega) (by omega), zn_n (by omega), b2, b3, Option.bind_some]
  exact ok2_some ⟨rfl, h1.1⟩
