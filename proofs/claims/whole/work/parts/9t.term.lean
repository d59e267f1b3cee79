/-! terms, on both sides -/
theorem ok2_ph {σ τ ε ρ ε' ρ' : Type} {L : σ → Option (σ ⊕ (ε ⊕ ρ))} {M : τ → Option (τ ⊕ (ε' ⊕ ρ'))} {Q : ε ⊕ ρ → ε' ⊕ ρ' → Prop} {I : Nat → σ → τ → Prop} (Z : τ → ε' ⊕ ρ' → Prop) (hZ : ∀ u e, Z u e → M u = some (.inr e)) (hL : ∀ n s u, I n s u → ok2 (L s) (M u) (fun o p => (∃ s' u' n', o = .inl s' ∧ p = .inl u' ∧ n' < n ∧ I n' s' u') ∨ (∃ e u' e', o = .inr e ∧ p = .inl u' ∧ Z u' e' ∧ Q e e') ∨ ∃ e e', o = .inr e ∧ p = .inr e' ∧ Q e e')) : ∀ (n f g : Nat) (s : σ) (u : τ), I n s u → n < f → n + 1 < g → ok2 (zloop L f s) (zloop M g u) Q := by
  intro n
  induction n using Nat.strongRecOn with
  | _ n ih =>
    intro f g s u hI hf hg
    obtain ⟨f', rfl⟩ : ∃ f', f = f' + 1 := ⟨f - 1, by omega⟩
    obtain ⟨g', rfl⟩ : ∃ g', g = g' + 1 + 1 := ⟨g - 2, by omega⟩
    obtain ⟨o, p, e1, e2, h | h | h⟩ := hL n s u hI
    · obtain ⟨s', u', n', rfl, rfl, hn, hI'⟩ := h
      rw [zloop_n e1, zloop_n e2]
      exact ih n' hn f' (g' + 1) s' u' hI' (by omega) (by omega)
    · obtain ⟨e, u', e', rfl, rfl, em, hq⟩ := h
      rw [zloop_e e1, zloop_n e2, zloop_e (hZ _ _ em)]
      exact ok2_some hq
    · obtain ⟨e, e', rfl, rfl, hq⟩ := h
      rw [zloop_e e1, zloop_e e2]
      exact ok2_some hq
def dv (T : Nat → Nat) (p : Nat) : Nat → Nat
  | 0 => 0
  | j + 1 => 10 * dv T p j + (T (p + j) - 48)
theorem dv_m {T : Nat → Nat} {p j : Nat} : ∀ k, dv T p j ≤ dv T p (j + k)
  | 0 => Nat.le_refl _
  | k + 1 => by
    have := dv_m (T := T) (p := p) (j := j) k
    show _ ≤ 10 * dv T p (j + k) + (T (p + (j + k)) - 48)
    omega
section LX
variable {t : Nat} {T : Nat → Nat}
theorem dg_n {i : Nat} (hi : i < t) (h : dg t T i) : 48 ≤ T i ∧ T i ≤ 57 := by
  unfold dg at h
  rw [sg_l hi] at h
  exact h
theorem cNumber {p q : Nat} {c : zM} (hB : TB t T) (h : LC t T p q c) (hd : dg t T p) (hE : En (dg t T) p q) : (dv T p (q - p) ≤ 999 → fX4_numberHere c = some (nI (dv T p (q - p)))) ∧ (¬ dv T p (q - p) ≤ 999 → fX4_numberHere c = some (-2)) := by
  have ht := hB.1
  have q1 := h.2.1.2.1
  have e1 := hE.1
  unfold fX4_numberHere
  rw [h.2.2.1]
  have lp : ok (zloop (fX4_numberHere_L7 c) zF (0, nI p)) (fun o => (dv T p (q - p) ≤ 999 ∧ o = Sum.inl (nI (dv T p (q - p)))) ∨ (¬ dv T p (q - p) ≤ 999 ∧ o = Sum.inr (-2))) := by
    refine ok_for (fun i s => s = (nI (dv T p i), nI (p + i)) ∧ dv T p i ≤ 999) (a := 0) (b := q - p) (by omega) (by unfold zF; omega) ⟨rfl, by unfold dv; omega⟩ (fun i s _ hi hI => ?_) (fun s hI => ?_)
    · obtain ⟨rfl, hv⟩ := hI
      unfold fX4_numberHere_L7
      dsimp only
      have b := dg_n (by omega) (hE.2.1 (p + i) (by omega) (by omega))
      have ec : Cs (T (p + i)) = nI (T (p + i)) := (Cs_v _ (by omega) _ (by omega)).mpr rfl
      rw [h.2.2.2.1, if_neg (fun q => by have := (nIle (by omega) (by omega)).mp q; omega), h.1.1, zob_t _ (show (some 0 == some 0) = true from rfl), zo _ (by omega) (by omega), zn_n (by omega), h.1.2.2 (p + i) (by omega), ec, show (10 : Int32) = nI 10 from rfl, pk_mul, nI_add, show (48 : Int32) = nI 48 from rfl, pk_sub (by omega), show (999 : Int32) = nI 999 from rfl, show dv T p i * 10 + T (p + i) - 48 = dv T p (i + 1) by show _ = 10 * dv T p i + (T (p + i) - 48); omega, nI_1]
      by_cases y : dv T p (i + 1) ≤ 999
      · rw [if_pos ((nIle (by omega) (by omega)).mpr y)]
        exact ok_some (Or.inl ⟨_, rfl, rfl, y⟩)
      · have : dv T p (i + 1) < 20000 := by show 10 * dv T p i + (T (p + i) - 48) < 20000; omega
        rw [if_neg (fun w => y ((nIle (by omega) (by omega)).mp w))]
        refine ok_some (Or.inr ⟨_, rfl, Or.inr ⟨fun w => ?_, rfl⟩⟩)
        have := dv_m (T := T) (p := p) (j := i + 1) (q - p - (i + 1))
        rw [show i + 1 + (q - p - (i + 1)) = q - p by omega] at this
        omega
    · obtain ⟨rfl, hv⟩ := hI
      unfold fX4_numberHere_L7
      dsimp only
      rw [h.2.2.2.1, show p + (q - p) = q by omega, if_pos (Int32.le_refl _)]
      exact ok_some ⟨_, rfl, Or.inl ⟨hv, rfl⟩⟩
  obtain ⟨o, eo, ho | ho⟩ := lp
  · obtain ⟨h1, rfl⟩ := ho
    rw [eo]
    exact ⟨fun _ => rfl, fun y => absurd h1 y⟩
  · obtain ⟨h1, rfl⟩ := ho
    rw [eo]
    exact ⟨fun y => absurd y h1, fun _ => rfl⟩
theorem rNumber {p q : Nat} {v1 : Int32} {r : zM} (hB : TB t T) (h : AR t T p r) (hE : En (dg t T) p q) (hq : q ≤ t) : ok (zloop (fX10_term_L26 v1) zF (0, r)) (fun o => ∃ r', o = Sum.inl (nI (min (dv T p (q - p)) 10000), r') ∧ AR t T q r' ∧ FS [2008] r r') := by
  have ht := hB.1
  have e1 := hE.1
  refine ok_for (fun i s => ∃ r', s = (nI (min (dv T p i) 10000), r') ∧ AR t T (p + i) r' ∧ FS [2008] r r') (a := 0) (b := q - p) (by omega) (by unfold zF; omega) ⟨r, rfl, h, FS_refl r⟩ (fun i s _ hi hI => ?_) (fun s hI => ?_)
  · obtain ⟨r', rfl, hA, f⟩ := hI
    unfold fX10_term_L26
    dsimp only
    have d := hE.2.1 (p + i) (by omega) (by omega)
    have b := dg_n (by omega) d
    have dd := d
    unfold dg at dd
    rw [qSign hB hA.1 hA.2.2 (by omega), Option.bind_some, qin (Rs_48 _ (sg_lt hB (p + i))), if_pos dd, Option.bind_some, if_neg n10, Option.bind_some, hA.2.2, nI_1, sg_l (by omega), (Rs_v (T (p + i)) (by omega) _ (by omega)).mpr rfl, show (10 : Int32) = nI 10 from rfl, pk_mul, nI_add, show (48 : Int32) = nI 48 from rfl, pk_sub (by omega), show (10000 : Int32) = nI 10000 from rfl]
    have e2 : (if nI (10 * min (dv T p i) 10000 + T (p + i) - 48) < nI 10000 then nI (10 * min (dv T p i) 10000 + T (p + i) - 48) else nI 10000) = nI (min (dv T p (i + 1)) 10000) := by
      show _ = nI (min (10 * dv T p i + (T (p + i) - 48)) 10000)
      by_cases y : 10 * min (dv T p i) 10000 + T (p + i) - 48 < 10000
      · rw [if_pos ((nIlt (by omega) (by omega)).mpr y)]
        congr 1
        omega
      · rw [if_neg (fun w => y ((nIlt (by omega) (by omega)).mp w))]
        congr 1
        omega
    rw [e2]
    have f2 := FS_wf (v := nI (p + i + 1)) (k := 10) (s := 8) (i := 0) (ks := [2008]) (by decide) (by decide) f
    exact ok_some (Or.inl ⟨_, rfl, _, rfl, ⟨TR_fs h.1 f2 (by decide), by rw [gi_wi, if_neg (by omega)]; exact hA.2.1, by rw [gi_wi, if_pos ⟨rfl, rfl, rfl⟩]; rfl⟩, f2⟩)
  · obtain ⟨r', rfl, hA, f⟩ := hI
    unfold fX10_term_L26
    dsimp only
    rw [show p + (q - p) = q by omega] at hA
    have d := hE.2.2
    unfold dg at d
    rw [qSign hB hA.1 hA.2.2 hq, Option.bind_some, qin (Rs_48 _ (sg_lt hB q)), if_neg d, Option.bind_some, if_pos (show (0 : Int32) = 0 from rfl)]
    exact ok_some ⟨_, rfl, r', rfl, hA, f⟩
theorem term2 {p q : Nat} {c r : zM} (hB : TB t T) (h : LC t T p q c) (hR : LR t T p r) : ok2 (fX4_termHere c) (fX10_term r) (fun x b => FS [2008, 2009, 2010] r b.2 ∧ ((∃ v, v < 1027 ∧ x = nI v ∧ b.1 = nI v ∧ AR t T q b.2) ∨ (x = -2 ∧ WR t T (FL p 2) b.2) ∨ (x = -1 ∧ WR t T (FL p 1) b.2))) := by
  have ht := hB.1
  have hK := h.2.1
  have hp := hK.1
  have hpq := TOK_le hK
  have kc := Cs_48 _ (sg_lt hB p)
  unfold fX10_term
  refine ok2_r (rNext hB hR hp) (fun b hb => ?_)
  obtain ⟨b1, b2, b3⟩ := hb
  rw [b1, qin (Rs_48 _ (sg_lt hB p)), Option.bind_some]
  unfold fX4_termHere
  rw [h.2.2.2.2.1]
  by_cases d : dg t T p
  · have dd := d
    unfold dg at dd
    have lt : p < t := by
      by_cases q : p < t
      · exact q
      · exact absurd d (dg_e p (by omega))
    have nl : ¬ lw t T p := fun w => by unfold lw at w; omega
    have hE := ((hK.2.2.2.2 lt).2 nl).1 d
    rw [if_neg (kc.mpr dd).1, if_neg (kc.mpr dd).2, if_pos dd, if_neg n10]
    refine ok2_r (rNumber hB b2 hE hK.2.1) (fun o ho => ?_)
    obtain ⟨r', rfl, hA, f⟩ := ho
    have f' : FS [2008, 2009, 2010] r r' := FS_mono (zss (by decide)) (FS_tr b3 f)
    obtain ⟨n1, n2⟩ := cNumber hB h d hE
    show ok2 _ (if nI (min (dv T p (q - p)) 10000) ≤ 999 then some (nI (min (dv T p (q - p)) 10000), r') else (fX10_fails 2 (gi b.2 10 0 8) r').bind (fun x10 => some (nI (min (dv T p (q - p)) 10000), x10))) _
    rw [show (999 : Int32) = nI 999 from rfl]
    by_cases y : dv T p (q - p) ≤ 999
    · rw [n1 y, Option.bind_some, if_pos ((nIle (by omega) (by omega)).mpr (by omega)), show min (dv T p (q - p)) 10000 = dv T p (q - p) by omega]
      exact ok2_some ⟨f', Or.inl ⟨_, by omega, rfl, rfl, hA⟩⟩
    · rw [n2 y, Option.bind_some, if_neg (fun w => by have := (nIle (by omega) (by omega)).mp w; omega), b2.2.2, l2, qFail hA.2.1, Option.bind_some]
      exact ok2_some ⟨FS_wf (by decide) (by decide) f', Or.inr (Or.inl ⟨rfl, WR_of hB hA.1 hA.2.2 hK.2.1 hp (by omega)⟩)⟩
  · have dd : ¬ (48 ≤ sg t T p ∧ sg t T p ≤ 57) := d
    rw [if_neg dd, if_pos (show (0 : Int32) = 0 from rfl)]
    have eJ : (if Cs (sg t T p) < 48 then fX4_termHere_J23 c else if 57 < Cs (sg t T p) then fX4_termHere_J23 c else (fX4_numberHere c).bind (fun x3 => some x3)) = fX4_termHere_J23 c := by
      by_cases w : Cs (sg t T p) < 48
      · rw [if_pos w]
      · rw [if_neg w]
        by_cases w' : 57 < Cs (sg t T p)
        · rw [if_pos w']
        · exact absurd (kc.mp ⟨w, w'⟩) dd
    rw [eJ]
    unfold fX4_termHere_J23
    refine ok2_l (pX4_isWord hB h.1 h.2.2.1 h.2.2.2.1 hK hpq (k := 4) (by omega)) (fun x hx => ?_)
    obtain ⟨-, -, hs⟩ := id hK
    have hE : En (sp t T) p p := ⟨Nat.le_refl p, fun i h1 h2 => by omega, hs.1⟩
    refine ok2_r (qTakes hB b2.1 b2.2.2 hE hK hpq (k := 4) (by omega)) (fun b' hb' => ?_)
    obtain ⟨t1, t2, t3⟩ := hb'
    by_cases y : q - p = zlen.getD 4 0 ∧ Wd T 4 p
    · obtain ⟨s1, s2⟩ := t1 ⟨b2.2.1, y⟩
      rw [hx.1 y, if_neg n10, s1, if_neg n10]
      exact ok2_some ⟨FS_mono (zss (by decide)) (FS_tr b3 t3), Or.inl ⟨1000, by omega, rfl, rfl, TR_fs b2.1 t3 (by decide), by rw [FSf t3 0 (by decide) (by decide)]; exact b2.2.1, s2⟩⟩
    · obtain ⟨s1, s2⟩ := t2 (fun w => y w.2)
      rw [hx.2 y, if_pos (show (0 : Int32) = 0 from rfl), s1, if_pos (show (0 : Int32) = 0 from rfl)]
      have hA : AR t T p b'.2 := ⟨TR_fs b2.1 t3 (by decide), by rw [FSf t3 0 (by decide) (by decide)]; exact b2.2.1, s2⟩
      refine ok2_r (rLetter hB (AR_LR hA hs.1) hK) (fun d' hd' => ?_)
      obtain ⟨l1', l2', -, l4⟩ := hd'
      have f' : FS [2008, 2009, 2010] r d'.2 := FS_tr (FS_mono (zss (by decide)) (FS_tr b3 t3)) l4
      obtain ⟨m1, m2⟩ := cMember hB h
      by_cases z : lw t T p ∧ q = p + 1
      · have lz := z.1
        unfold lw at lz
        obtain ⟨u1, u2⟩ := l1' z
        rw [m1 z, Option.bind_some, if_neg (nIm1 (by omega)), u1, show (1001 : Int32) = nI 1001 from rfl, nI_add]
        exact ok2_some ⟨f', Or.inl ⟨_, by omega, rfl, rfl, u2⟩⟩
      · rw [m2 z, Option.bind_some, if_pos (show (-1 : Int32) = -1 from rfl)]
        exact ok2_some ⟨f', Or.inr (Or.inr ⟨rfl, l2' z⟩)⟩
end LX
