/-! ways counted, on both sides -/
theorem l31 : (2 : Nat) ^ 12 ≤ 2 ^ 31 := by decide
theorem cw {w d n S : Nat} {c r : zM} (hW : WLI w d n c r) (hS : S < 2 ^ 12) (hS0 : 0 < S) : ok (fX10_countsWays (nI S) r) (fun b => (∃ A, (∀ y v, y < 12 → ((A y).testBit v = true ↔ Drr (fun u => rR r 38 0 u) S n y v)) ∧ BM b.2 52 A ∧ b.1 = lN (Wy (Kb A) S)) ∧ FS [52, 53] r b.2) := by
  have hl := l31
  unfold fX10_countsWays
  refine ok_bind (ahR hW hS) (fun r1 h1 => ?_)
  obtain ⟨⟨A, a1, a2⟩, f1⟩ := h1
  rw [zn0]
  refine ok_bind (P := fun o => ∃ r', o = Sum.inl r' ∧ BM r' 52 A ∧ FS [52, 53] r r' ∧ ∀ B, B ≤ S → dif B S = 0 → gl r' B = lN (Wy (Kb A) B)) ?_ (fun o ho => ?_)
  · refine ok_for (fun a s => s.1 = nI a ∧ BM s.2 52 A ∧ FS [52, 53] r s.2 ∧ ∀ B, B < a → dif B S = 0 → gl s.2 B = lN (Wy (Kb A) B)) (a := 1) (b := S + 1) (by omega) (by unfold zF; omega) ⟨rfl, fun y hy => a1 y hy, FS_wl (by decide) (FS_mono (zss (by decide)) f1), fun B hB hd => ?_⟩ (fun a s ha1 ha hI => ?_) (fun s hI => ?_)
    · have : B = 0 := by omega
      subst this
      rw [gl_wl, if_pos rfl, Wy_0]
      rfl
    · obtain ⟨s1, m⟩ := s
      obtain ⟨i1, i2, i3, i4⟩ := hI
      dsimp only at i1 i2 i3 i4
      subst i1
      unfold fX10_countsWays_L14
      dsimp only
      rw [zo _ (by omega) (by omega), zn_n (by omega), nI_1]
      refine ok_f (fun q => by have := (nIlt (by omega) (by omega)).mp q; omega) ?_
      have inner : ok (zloop (fX10_countsWays_L28 (nI S) (nI a)) zF (0, wl m a 0)) (fun o => ∃ r', o = Sum.inl r' ∧ BM r' 52 A ∧ FS [52, 53] r r' ∧ (∀ B, B ≠ a → gl r' B = gl m B) ∧ (dif a S = 0 → gl r' a = lN (Wy (Kb A) a))) := by
        refine ok_for (fun v s => s.1 = nI v ∧ BM s.2 52 A ∧ FS [52, 53] r s.2 ∧ (∀ B, B ≠ a → gl s.2 B = gl m B) ∧ gl s.2 a = lN (sm (fun v => if (a.testBit v && Kb A v (dif a (2 ^ v))) = true then Wy (Kb A) (dif a (2 ^ v)) else 0) v)) (a := 0) (b := 12) (by omega) (by unfold zF; omega) ⟨rfl, fun y hy => i2 y hy, FS_wl (by decide) i3, fun B hB => by show gl (wl m a 0) B = _; rw [gl_wl, if_neg hB], by show gl (wl m a 0) a = _; rw [gl_wl, if_pos rfl]; rfl⟩ (fun v s _ hv hI2 => ?_) (fun s hI2 => ?_)
        · obtain ⟨t1, m2⟩ := s
          obtain ⟨j1, j2, j3, j4, j5⟩ := hI2
          dsimp only at j1 j2 j3 j4 j5
          subst j1
          have pv := p12 hv
          have dl : dif a (2 ^ v) ≤ a := dif_le
          unfold fX10_countsWays_L28
          dsimp only
          rw [l12, andn (by omega) (by omega), has_r (by omega) (by omega), Option.bind_some, zo _ (by omega) (by omega), zn_n (by omega), (j2 v hv).2, sh1 (by omega), andn (by omega) (by omega), andn (by have := (j2 v hv).1; omega) (by omega), zo _ (by omega) (by omega), zo _ (by omega) (by omega), zo _ (by omega) (by omega), zn_n (by omega), zn_n (by omega), nI_1]
          refine ok_f (fun q => by have := (nIle (by omega) (by omega)).mp q; omega) ?_
          have dl2 : dif a S ≤ a := dif_le
          by_cases hd : dif a S = 0
          · rw [hd, if_pos (show nI 0 = 0 from rfl)]
            have st : ∀ x, (if (a.testBit v && Kb A v (dif a (2 ^ v))) = true then Wy (Kb A) (dif a (2 ^ v)) else 0) = x → sm (fun v => if (a.testBit v && Kb A v (dif a (2 ^ v))) = true then Wy (Kb A) (dif a (2 ^ v)) else 0) (v + 1) = sm (fun v => if (a.testBit v && Kb A v (dif a (2 ^ v))) = true then Wy (Kb A) (dif a (2 ^ v)) else 0) v + x := fun x hx => by
              show sm _ v + (if (a.testBit v && Kb A v (dif a (2 ^ v))) = true then Wy (Kb A) (dif a (2 ^ v)) else 0) = _
              rw [hx]
            by_cases q : a.testBit v = true
            · rw [if_pos q, if_neg n10]
              have lt := d_lt (by omega) hv q
              have dA : dif (A v) (dif a (2 ^ v)) ≤ A v := dif_le
              by_cases k : dif (A v) (dif a (2 ^ v)) = 0
              · rw [k, if_pos (show nI 0 = 0 from rfl)]
                have k' : Kb A v (dif a (2 ^ v)) = true := by unfold Kb; rw [k]; rfl
                have dS : dif (dif a (2 ^ v)) S = 0 := (dif0 (by omega) hS).mpr (fun y hy => (dif0 (by omega) hS).mp hd y ((d_in (by omega) hv).mp hy).1)
                refine ok_some (Or.inl ⟨_, rfl, rfl, fun y hy => j2 y hy, FS_wl (by decide) j3, fun B hB => ?_, ?_⟩)
                · show gl (wl m2 a _) B = _
                  rw [gl_wl, if_neg hB]; exact j4 B hB
                · show gl (wl m2 a _) a = _
                  rw [gl_wl, if_pos rfl, j5, j4 _ (by omega), i4 _ (by omega) dS, lN_add, st (Wy (Kb A) (dif a (2 ^ v))) (by rw [q, k']; rfl)]
              · rw [if_neg (show ¬ nI (dif (A v) (dif a (2 ^ v))) = 0 from fun z => k ((nIeq (b := 0) (by have := (j2 v hv).1; omega) (by omega)).mp z))]
                have k' : Kb A v (dif a (2 ^ v)) = false := by unfold Kb; simp [k]
                refine ok_some (Or.inl ⟨_, rfl, rfl, j2, j3, j4, ?_⟩)
                rw [j5, st 0 (by rw [q, k']; rfl)]
                rfl
            · rw [if_neg q, if_pos (show (0 : Int32) = 0 from rfl)]
              have q' : a.testBit v = false := by simpa using q
              refine ok_some (Or.inl ⟨_, rfl, rfl, j2, j3, j4, ?_⟩)
              rw [j5, st 0 (by rw [q']; rfl)]
              rfl
          · rw [if_neg (show ¬ nI (dif a S) = 0 from fun z => hd ((nIeq (b := 0) (by omega) (by omega)).mp z))]
            exact ok_some (Or.inr ⟨_, rfl, m2, rfl, j2, j3, j4, fun z => absurd z hd⟩)
        · obtain ⟨t1, m2⟩ := s
          obtain ⟨j1, j2, j3, j4, j5⟩ := hI2
          dsimp only at j1 j2 j3 j4 j5
          subst j1
          unfold fX10_countsWays_L28
          dsimp only
          rw [l12]
          exact ok_t (Int32.le_refl _) (ok_some ⟨_, rfl, m2, rfl, j2, j3, j4, fun _ => by rw [j5, Wy_e (by omega) (by omega)]⟩)
      obtain ⟨o, eo, r2, rfl, j2, j3, j4, j5⟩ := inner
      rw [eo]
      refine ok_some (Or.inl ⟨_, rfl, rfl, j2, j3, fun B hB hd => ?_⟩)
      by_cases e : B = a
      · subst e; exact j5 hd
      · show gl r2 B = _
        rw [j4 B e]; exact i4 B (by omega) hd
    · obtain ⟨s1, m⟩ := s
      obtain ⟨i1, i2, i3, i4⟩ := hI
      dsimp only at i1 i2 i3 i4
      subst i1
      unfold fX10_countsWays_L14
      dsimp only
      exact ok_t ((nIlt (by omega) (by omega)).mpr (by omega)) (ok_some ⟨_, rfl, m, rfl, i2, i3, fun B hB hd => i4 B (by omega) hd⟩)
  · obtain ⟨r2, rfl, j2, j3, j4⟩ := ho
    show ok (zob (zin (nI S) 4096) (some (gl r2 (zn (nI S)), r2))) _
    rw [zo _ (by omega) (by omega), zn_n (by omega)]
    exact ok_some ⟨⟨A, a2, j2, j4 S (Nat.le_refl _) ((dif0 hS hS).mpr (fun v hv => hv))⟩, j3⟩
/-- the class's table -/
def cfG (T : Nat → Nat) (S a t A v : Nat) : Nat := if (A.testBit v && (dif A S == 0) && Kb T v (dif A (2 ^ v)) && (decide (dif A (2 ^ v) < a) || (decide (dif A (2 ^ v) = a) && decide (v < t)))) = true then Wy (Kb T) (dif A (2 ^ v)) else 0
def cfT (T : Nat → Nat) (S a t A : Nat) : Nat := if A = 0 then 1 else sm (cfG T S a t A) 12
theorem cfT_nx {T : Nat → Nat} {S a A : Nat} : cfT T S a 12 A = cfT T S (a + 1) 0 A := by
  unfold cfT
  by_cases z : A = 0
  · rw [if_pos z, if_pos z]
  · rw [if_neg z, if_neg z]
    refine sm_cg (fun v hv => ?_)
    unfold cfG
    congr 2
    have e : (decide (dif A (2 ^ v) < a) || (decide (dif A (2 ^ v) = a) && decide (v < 12))) = (decide (dif A (2 ^ v) < a + 1) || (decide (dif A (2 ^ v) = a + 1) && decide (v < 0))) := by
      rw [show decide (v < 12) = true by simp [hv], show decide (v < 0) = false by simp]
      by_cases q : dif A (2 ^ v) < a
      · simp [q, show dif A (2 ^ v) < a + 1 by omega]
      · by_cases q2 : dif A (2 ^ v) = a
        · simp [q2]
        · simp [q, q2, show ¬ dif A (2 ^ v) < a + 1 by omega]
    rw [e]
theorem cfT_self {T : Nat → Nat} {S a t : Nat} (ha : a < 2 ^ 12) : cfT T S a t a = if a = 0 ∨ dif a S = 0 then Wy (Kb T) a else 0 := by
  unfold cfT
  by_cases z : a = 0
  · rw [if_pos z, if_pos (Or.inl z), z]; rfl
  · rw [if_neg z]
    by_cases hd : dif a S = 0
    · rw [if_pos (Or.inr hd), Wy_e ha z]
      refine sm_cg (fun v hv => ?_)
      unfold cfG
      by_cases q : a.testBit v = true
      · have := d_lt ha hv q
        simp [q, hd, this]
      · simp [q]
    · rw [if_neg (fun q => q.elim z hd)]
      refine sm_0 (fun v hv => ?_)
      unfold cfG
      simp [hd]
theorem pX3_hasNone {c : zM} {T : Nat → Nat} {o : Option Nat} (hT : BM c 28 T) (ho : IsF (fun y => (T y).testBit y = true) 12 o) : fX3_hasNone c = some (lfv o) := by
  have hl := l31
  unfold fX3_hasNone
  refine zfst_b (g := fun k => (1 : Int32)) (by omega) ho ?_ (fun k hk => ?_) ?_
  · cases o <;> rfl
  · obtain ⟨t1, t2⟩ := hT k hk
    unfold fX3_hasNone_L2
    rw [l12, if_neg (fun q => by have := (nIle (by omega) (by omega)).mp q; omega), zo _ (by omega) (by omega), zn_n (by omega), t2, has_c (by omega) (by omega), Option.bind_some, nI_1]
    exact ⟨fun z => by rw [if_pos z, if_neg n10], fun z => by rw [if_neg z, if_pos rfl]⟩
  · unfold fX3_hasNone_L2
    rw [l12, if_pos (Int32.le_refl _)]
theorem pX3_canFollow {c : zM} {T : Nat → Nat} {S a t : Nat} (hT : BM c 28 T) (hS : S < 2 ^ 12) (e3 : gi c 3 0 2 = nI S) (ha : a < 2 ^ 12) (ht : t < 12) : fX3_canFollow (nI a) (nI t) c = some (if (S.testBit t = true ∧ a.testBit t = false ∧ Kb T t a = true) then 1 else 0) := by
  have hl := l31
  obtain ⟨t1, t2⟩ := hT t ht
  have d1 : dif S a ≤ S := dif_le
  have d2 : dif (T t) a ≤ T t := dif_le
  unfold fX3_canFollow
  rw [e3, andn (by omega) (by omega), has_c (by omega) (by omega), Option.bind_some, dif_tb (by omega) (by omega), zo _ (by omega) (by omega), zn_n (by omega), t2, andn (by omega) (by omega)]
  by_cases q1 : S.testBit t = true
  · by_cases q2 : a.testBit t = true
    · rw [q1, q2, if_neg (show ¬ ((true && !true) = true) by decide), if_pos (show (0 : Int32) = 0 from rfl), if_neg (by simp)]
    · have q2' : a.testBit t = false := by simpa using q2
      rw [q1, q2', if_pos (show (true && !false) = true by decide), if_neg n10]
      by_cases k : dif (T t) a = 0
      · have k' : Kb T t a = true := by unfold Kb; rw [k]; rfl
        rw [k, if_pos (show nI 0 = 0 from rfl), if_pos ⟨rfl, rfl, k'⟩]
      · have k' : ¬ Kb T t a = true := by unfold Kb; simp [k]
        rw [if_neg (show ¬ nI (dif (T t) a) = 0 from fun z => k ((nIeq (b := 0) (by omega) (by omega)).mp z)), if_neg (fun z => k' z.2.2)]
  · have q1' : S.testBit t = false := by simpa using q1
    rw [q1', if_neg (show ¬ ((false && !a.testBit t) = true) by simp), if_pos (show (0 : Int32) = 0 from rfl), if_neg (by simp)]
theorem howM {c : zM} {T : Nat → Nat} {S : Nat} (hT : BM c 28 T) (hS : S < 2 ^ 12) (e3 : gi c 3 0 2 = nI S) (ha : ∀ y, y < 12 → ¬ (T y).testBit y = true) : ok (fX3_howMany c) (fun b => b.1 = lN (Wy (Kb T) S) ∧ FS [29] c b.2) := by
  have hl := l31
  unfold fX3_howMany
  rw [pX3_hasNone hT (o := none) ha, Option.bind_some]
  refine ok_t (show lfv none = 0 from rfl) ?_
  have fill : ok (fJ7_fill_29 0 c) (fun c' => (∀ j, j < 4096 → gi c' 29 0 j = 0) ∧ FS [29] c c') := by
    refine ok_fr ?_ (frJ7_fill_29 (ks := [29]) (fun k h => h) (FS_refl _))
    unfold fJ7_fill_29
    have h : ok (zloop (fJ7_fill_29_L5 0 4096) zF (0, c)) (fun o => ∃ c', o = Sum.inl c' ∧ ∀ j, j < 4096 → gi c' 29 0 j = 0) := by
      refine ok_for (fun i s => s.1 = nI i ∧ ∀ j, j < i → gi s.2 29 0 j = 0) (a := 0) (b := 4096) (by omega) (by unfold zF; omega) ⟨rfl, fun j hj => by omega⟩ (fun i s _ hi hI => ?_) (fun s hI => ?_)
      · obtain ⟨s1, m⟩ := s
        obtain ⟨h1, h2⟩ := hI
        dsimp only at h1 h2
        subst h1
        unfold fJ7_fill_29_L5
        dsimp only
        rw [show (4096 : Int32) = nI 4096 from rfl, zo _ (by omega) (by omega), zn_n (by omega), nI_1]
        refine ok_f (fun q => by have := (nIle (by omega) (by omega)).mp q; omega) (ok_some (Or.inl ⟨_, rfl, rfl, fun j hj => ?_⟩))
        dsimp only
        rw [gi_wi]
        by_cases e : j = i
        · rw [if_pos ⟨rfl, rfl, e⟩]
        · rw [if_neg (by omega)]; exact h2 j (by omega)
      · obtain ⟨s1, m⟩ := s
        obtain ⟨h1, h2⟩ := hI
        dsimp only at h1 h2
        subst h1
        unfold fJ7_fill_29_L5
        dsimp only
        exact ok_t (Int32.le_refl _) (ok_some ⟨_, rfl, m, rfl, h2⟩)
    obtain ⟨o, e, c', rfl, h⟩ := h
    rw [e]
    exact ok_some h
  refine ok_bind fill (fun c1 h1 => ?_)
  rw [zn0]
  have c00 : ∀ A, A < 4096 → gi (wi c1 29 0 0 1) 29 0 A = nI (cfT T S 0 0 A) := fun A hA => by
    rw [gi_wi]
    unfold cfT
    by_cases z : A = 0
    · rw [if_pos ⟨rfl, rfl, z⟩, if_pos z]; rfl
    · rw [if_neg (fun q => z q.2.2), if_neg z, h1.1 A hA, sm_0 (fun v hv => by unfold cfG; simp)]
      rfl
  refine ok_bind (P := fun o => ∃ c', o = Sum.inl c' ∧ FS [29] c c' ∧ gi c' 29 0 S = nI (Wy (Kb T) S)) ?_ (fun o ho => ?_)
  · refine ok_for (fun a s => s.1 = nI a ∧ FS [29] c s.2 ∧ ∀ A, A < 4096 → gi s.2 29 0 A = nI (cfT T S a 0 A)) (a := 0) (b := S) (by omega) (by unfold zF; omega) ⟨rfl, FS_wa (by decide) (by decide) h1.2, c00⟩ (fun a s _ haS hI => ?_) (fun s hI => ?_)
    · obtain ⟨s1, m⟩ := s
      obtain ⟨i1, i2, i3⟩ := hI
      dsimp only at i1 i2 i3
      subst i1
      have e3m : gi m 3 0 2 = nI S := (FSf i2 0 (by decide) (by decide)).trans e3
      have hTm : BM m 28 T := fun y hy => ⟨(hT y hy).1, (FSa i2 _ _ (by decide) (by decide)).trans (hT y hy).2⟩
      have ea := i3 a (by omega)
      rw [cfT_self (by omega)] at ea
      have wl := Wy_lt (K := Kb T) (A := a) (by omega)
      unfold fX3_howMany_L26
      dsimp only
      rw [e3m, zo _ (by omega) (by omega), zn_n (by omega), ea, nI_1]
      refine ok_f (fun q => by have := (nIle (by omega) (by omega)).mp q; omega) ?_
      by_cases z : a = 0 ∨ dif a S = 0
      · rw [if_pos z]
        have aS : ∀ v, a.testBit v = true → S.testBit v = true := fun v hv => by
          rcases z with z | z
          · subst z; simp at hv
          · exact (dif0 (by omega) hS).mp z v hv
        by_cases w0 : Wy (Kb T) a = 0
        · rw [w0]
          refine ok_t (show nI 0 = 0 from rfl) (ok_some (Or.inl ⟨_, rfl, rfl, i2, fun A hA => ?_⟩))
          dsimp only
          rw [i3 A hA, ← cfT_nx]
          congr 1
          unfold cfT
          by_cases zA : A = 0
          · rw [if_pos zA, if_pos zA]
          · rw [if_neg zA, if_neg zA]
            refine sm_cg (fun v hv => ?_)
            unfold cfG
            by_cases e : dif A (2 ^ v) = a
            · rw [e, w0]
              split <;> split <;> rfl
            · simp [e]
        · refine ok_f (fun q => w0 ((nIeq (b := 0) wl (by omega)).mp q)) ?_
          have inner : ok (fX3_addNext (nI a) m) (fun m' => FS [29] c m' ∧ ∀ A, A < 4096 → gi m' 29 0 A = nI (cfT T S a 12 A)) := by
            unfold fX3_addNext
            have h : ok (zloop (fX3_addNext_L2 (nI a)) zF (0, m)) (fun o => ∃ m', o = Sum.inl m' ∧ FS [29] c m' ∧ ∀ A, A < 4096 → gi m' 29 0 A = nI (cfT T S a 12 A)) := by
              refine ok_for (fun t s => s.1 = nI t ∧ FS [29] c s.2 ∧ ∀ A, A < 4096 → gi s.2 29 0 A = nI (cfT T S a t A)) (a := 0) (b := 12) (by omega) (by unfold zF; omega) ⟨rfl, i2, i3⟩ (fun t s _ ht hI2 => ?_) (fun s hI2 => ?_)
              · obtain ⟨t1, m2⟩ := s
                obtain ⟨j1, j2, j3⟩ := hI2
                dsimp only at j1 j2 j3
                subst j1
                have e3m2 : gi m2 3 0 2 = nI S := (FSf j2 0 (by decide) (by decide)).trans e3
                have hTm2 : BM m2 28 T := fun y hy => ⟨(hT y hy).1, (FSa j2 _ _ (by decide) (by decide)).trans (hT y hy).2⟩
                have ho := or_lt (k := 12) (show a < 2 ^ 12 by omega) (p12 ht)
                have ea2 := j3 a (by omega)
                rw [cfT_self (by omega), if_pos z] at ea2
                unfold fX3_addNext_L2
                dsimp only
                rw [l12, pX3_canFollow hTm2 hS e3m2 (by omega) ht, Option.bind_some, set1 (by omega), zo _ (by omega) (by omega), zo _ (by omega) (by omega), zo _ (by omega) (by omega), zn_n (by omega), zn_n (by omega), ea2, j3 _ (by omega), nI_add, nI_1]
                refine ok_f (fun q => by have := (nIle (by omega) (by omega)).mp q; omega) ?_
                have other : ∀ A, A < 4096 → ¬ (A = a ||| 2 ^ t ∧ (S.testBit t = true ∧ a.testBit t = false ∧ Kb T t a = true)) → cfT T S a (t + 1) A = cfT T S a t A := fun A hA hne => by
                  unfold cfT
                  by_cases zA : A = 0
                  · rw [if_pos zA, if_pos zA]
                  · rw [if_neg zA, if_neg zA]
                    refine sm_cg (fun v hv => ?_)
                    unfold cfG
                    by_cases e : v = t
                    · subst e
                      by_cases c1 : (A.testBit v && (dif A S == 0) && Kb T v (dif A (2 ^ v)) && decide (dif A (2 ^ v) = a)) = true
                      · exfalso
                        simp only [Bool.and_eq_true, beq_iff_eq, decide_eq_true_iff] at c1
                        obtain ⟨⟨⟨x1, x2⟩, x3⟩, x4⟩ := c1
                        refine hne ⟨?_, (dif0 hA hS).mp x2 v x1, ?_, by rw [← x4]; exact x3⟩
                        · rw [← x4, or_d hA hv x1]
                        · rw [← x4, d_tb hA hv]
                          simp
                      · by_cases e2 : dif A (2 ^ v) = a
                        · have c1' : (A.testBit v && (dif A S == 0) && Kb T v (dif A (2 ^ v))) = false := by
                            simp only [e2, decide_true, Bool.and_true] at c1
                            rw [e2]
                            simpa using c1
                          rw [c1']
                          simp
                        · simp [e2]
                    · have e2 : decide (v < t + 1) = decide (v < t) := by
                        by_cases q : v < t
                        · simp [q, show v < t + 1 by omega]
                        · simp [q, show ¬ v < t + 1 by omega]
                      rw [e2]
                by_cases cf : S.testBit t = true ∧ a.testBit t = false ∧ Kb T t a = true
                · rw [if_pos cf]
                  refine ok_f n10 (ok_some (Or.inl ⟨_, rfl, rfl, FS_wa (by decide) (by decide) j2, fun A hA => ?_⟩))
                  dsimp only
                  rw [gi_wi]
                  by_cases eA : A = a ||| 2 ^ t
                  · rw [if_pos ⟨rfl, rfl, eA⟩]
                    congr 1
                    subst eA
                    have tA : (a ||| 2 ^ t).testBit t = true := by rw [tb_set]; simp
                    have nz : a ||| 2 ^ t ≠ 0 := fun q => by rw [q] at tA; simp at tA
                    have ed := d_or (show a < 2 ^ 12 by omega) ht cf.2.1
                    have dS : dif (a ||| 2 ^ t) S = 0 := (dif0 ho hS).mpr (fun y hy => by
                      rw [tb_set, Bool.or_eq_true, decide_eq_true_iff] at hy
                      rcases hy with q | q
                      · exact aS y q
                      · rw [← q]; exact cf.1)
                    unfold cfT
                    rw [if_neg nz, if_neg nz]
                    refine (sm_up (t := t) (δ := Wy (Kb T) a) ht (fun v hv hne => ?_) ?_).symm
                    · unfold cfG
                      have e2 : decide (v < t + 1) = decide (v < t) := by
                        by_cases q : v < t
                        · simp [q, show v < t + 1 by omega]
                        · simp [q, show ¬ v < t + 1 by omega]
                      rw [e2]
                    · unfold cfG
                      rw [ed, tA, dS, cf.2.2]
                      simp
                  · rw [if_neg (fun q => eA q.2.2), j3 A hA, other A hA (fun q => eA q.1)]
                · rw [if_neg cf]
                  refine ok_t rfl (ok_some (Or.inl ⟨_, rfl, rfl, j2, fun A hA => ?_⟩))
                  dsimp only
                  rw [j3 A hA, other A hA (fun q => cf q.2)]
              · obtain ⟨t1, m2⟩ := s
                obtain ⟨j1, j2, j3⟩ := hI2
                dsimp only at j1 j2 j3
                subst j1
                unfold fX3_addNext_L2
                dsimp only
                rw [l12]
                exact ok_t (Int32.le_refl _) (ok_some ⟨_, rfl, m2, rfl, j2, j3⟩)
            obtain ⟨o, e, m', rfl, h⟩ := h
            rw [e]
            exact ok_some h
          refine ok_bind inner (fun m' hm' => ok_some (Or.inl ⟨_, rfl, rfl, hm'.1, fun A hA => ?_⟩))
          dsimp only
          rw [hm'.2 A hA, cfT_nx]
      · rw [if_neg z]
        refine ok_t (show nI 0 = 0 from rfl) (ok_some (Or.inl ⟨_, rfl, rfl, i2, fun A hA => ?_⟩))
        dsimp only
        rw [i3 A hA, ← cfT_nx]
        congr 1
        unfold cfT
        by_cases zA : A = 0
        · rw [if_pos zA, if_pos zA]
        · rw [if_neg zA, if_neg zA]
          refine sm_cg (fun v hv => ?_)
          unfold cfG
          by_cases e : dif A (2 ^ v) = a
          · have nS : ¬ dif A S = 0 := fun q => z (Or.inr ((dif0 (by omega) hS).mpr (fun y hy => by
              rw [← e] at hy
              exact (dif0 hA hS).mp q y ((d_in hA hv).mp hy).1)))
            simp [nS]
          · simp [e]
    · obtain ⟨s1, m⟩ := s
      obtain ⟨i1, i2, i3⟩ := hI
      dsimp only at i1 i2 i3
      subst i1
      have e3m : gi m 3 0 2 = nI S := (FSf i2 0 (by decide) (by decide)).trans e3
      unfold fX3_howMany_L26
      dsimp only
      rw [e3m]
      refine ok_t (Int32.le_refl _) (ok_some ⟨_, rfl, m, rfl, i2, ?_⟩)
      rw [i3 S (by omega), cfT_self hS, if_pos (Or.inr ((dif0 hS hS).mpr (fun v hv => hv)))]
  · obtain ⟨c2, rfl, f2, e2⟩ := ho
    have e3m : gi c2 3 0 2 = nI S := (FSf f2 0 (by decide) (by decide)).trans e3
    show ok (zob (zin (gi c2 3 0 2) 4096) (some ((gi c2 29 0 (zn (gi c2 3 0 2))).toInt64, c2))) _
    rw [e3m, zo _ (by omega) (by omega), zn_n (by omega), e2, nI_l (Wy_lt hS)]
    exact ok_some ⟨rfl, f2⟩
