/-! lines: searches in rows, on both sides -/
def IsF (P : Nat → Prop) (R : Nat) (o : Option Nat) : Prop := match o with
  | none => ∀ k, k < R → ¬ P k
  | some k => k < R ∧ P k ∧ ∀ j, j < k → ¬ P j
theorem IsF_ex (P : Nat → Prop) : ∀ R, ∃ o, IsF P R o
  | 0 => ⟨none, fun k hk => by omega⟩
  | R + 1 => by
    obtain ⟨o, ho⟩ := IsF_ex P R
    cases o with
    | some k => exact ⟨some k, by have := ho.1; omega, ho.2.1, ho.2.2⟩
    | none =>
      by_cases h : P R
      · exact ⟨some R, by omega, h, ho⟩
      · refine ⟨none, fun k hk => ?_⟩
        by_cases e : k = R
        · rw [e]; exact h
        · exact ho k (by omega)
theorem zfst {ρ : Type} {L : Int32 → Option (Int32 ⊕ (Unit ⊕ ρ))} {P : Nat → Prop} {g : Nat → ρ} {R : Nat} {o : Option Nat} (hR : R < 20000) (ho : IsF P R o) (hgo : ∀ k, k < R → (P k → L (nI k) = some (.inr (.inr (g k)))) ∧ (¬ P k → L (nI k) = some (.inl (nI (k + 1))))) (hend : L (nI R) = some (.inr (.inl ()))) : zloop L zF 0 = some (match o with | none => .inl () | some k => .inr (g k)) := by
  have h : ok (zloop L zF 0) (fun e => e = (match o with | none => .inl () | some k => .inr (g k))) := by
    refine ok_for (fun i s => s = nI i ∧ ∀ j, j < i → ¬ P j) (a := 0) (b := R) (by omega) (by unfold zF; omega) ⟨rfl, fun j hj => by omega⟩ (fun i s _ hi hI => ?_) (fun s hI => ?_)
    · obtain ⟨rfl, h2⟩ := hI
      by_cases hp : P i
      · rw [(hgo i hi).1 hp]
        refine ok_some (Or.inr ⟨_, rfl, ?_⟩)
        cases o with
        | none => exact absurd hp (ho i hi)
        | some k =>
          have a1 : ¬ i < k := fun q => ho.2.2 i q hp
          have a2 : ¬ k < i := fun q => h2 k q ho.2.1
          rw [show i = k by omega]
      · rw [(hgo i hi).2 hp]
        refine ok_some (Or.inl ⟨_, rfl, rfl, fun j hj => ?_⟩)
        by_cases e : j = i
        · rw [e]; exact hp
        · exact h2 j (by omega)
    · obtain ⟨rfl, h2⟩ := hI
      rw [hend]
      refine ok_some ⟨_, rfl, ?_⟩
      cases o with
      | none => rfl
      | some k => exact absurd ho.2.1 (h2 k ho.1)
  obtain ⟨e, h1, h2⟩ := h
  rw [h1, h2]
theorem zfst_b {ρ β : Type} {L : Int32 → Option (Int32 ⊕ (Unit ⊕ ρ))} {P : Nat → Prop} {g : Nat → ρ} {R : Nat} {o : Option Nat} {F : Unit ⊕ ρ → Option β} {x : Option β} (hR : R < 20000) (ho : IsF P R o) (hres : F (match o with | none => .inl () | some k => .inr (g k)) = x) (hgo : ∀ k, k < R → (P k → L (nI k) = some (.inr (.inr (g k)))) ∧ (¬ P k → L (nI k) = some (.inl (nI (k + 1))))) (hend : L (nI R) = some (.inr (.inl ()))) : (zloop L zF 0).bind F = x := by
  rw [zfst hR ho hgo hend]
  exact hres
/-- is there one from a up to b? -/
theorem zex {ρ : Type} {L : Int32 → Option (Int32 ⊕ (Unit ⊕ ρ))} {P : Nat → Prop} {v : ρ} {a b : Nat} (ha : a < 10000) (hb : b < 10000) (hgo : ∀ i, a ≤ i → i < b → (P i → L (nI i) = some (.inr (.inr v))) ∧ (¬ P i → L (nI i) = some (.inl (nI (i + 1))))) (hend : ∀ i, a ≤ i → b ≤ i → i ≤ a + b → L (nI i) = some (.inr (.inl ()))) : ((∃ i, a ≤ i ∧ i < b ∧ P i) → zloop L zF (nI a) = some (.inr v)) ∧ (¬ (∃ i, a ≤ i ∧ i < b ∧ P i) → zloop L zF (nI a) = some (.inl ())) := by
  have h : ok (zloop L zF (nI a)) (fun e => ((∃ i, a ≤ i ∧ i < b ∧ P i) → e = .inr v) ∧ (¬ (∃ i, a ≤ i ∧ i < b ∧ P i) → e = .inl ())) := by
    refine ok_for (fun i s => s = nI i ∧ ∀ j, a ≤ j → j < i → ¬ P j) (a := a) (b := max a b) (by omega) (by unfold zF; omega) ⟨rfl, fun j _ hj => by omega⟩ (fun i s hi1 hi hI => ?_) (fun s hI => ?_)
    · obtain ⟨rfl, h2⟩ := hI
      by_cases hp : P i
      · rw [(hgo i hi1 (by omega)).1 hp]
        exact ok_some (Or.inr ⟨_, rfl, fun _ => rfl, fun q => absurd ⟨i, hi1, by omega, hp⟩ q⟩)
      · rw [(hgo i hi1 (by omega)).2 hp]
        refine ok_some (Or.inl ⟨_, rfl, rfl, fun j h1 hj => ?_⟩)
        by_cases e : j = i
        · rw [e]; exact hp
        · exact h2 j h1 (by omega)
    · obtain ⟨rfl, h2⟩ := hI
      rw [hend _ (by omega) (by omega) (by omega)]
      exact ok_some ⟨_, rfl, fun ⟨i, q1, q2, q3⟩ => absurd q3 (h2 i q1 (by omega)), fun _ => rfl⟩
  obtain ⟨e, h1, h2, h3⟩ := h
  exact ⟨fun q => by rw [h1, h2 q], fun q => by rw [h1, h3 q]⟩
def CRw (R : Nat) (E H : Nat → Nat) (A : Nat → Nat → Nat) (c : zM) : Prop := gi c 2 0 9 = nI R ∧ ∀ k, k < R → gi c 26 0 k = nI (E k) ∧ gi c 25 0 k = nI (H k) ∧ ∀ i, i < E k → gi c 24 k i = nI (A k i)
def RRw (R : Nat) (E H : Nat → Nat) (A : Nat → Nat → Nat) (r : zM) : Prop := ∀ k, k < R → gi r 50 0 k = nI (E k) ∧ gi r 51 0 k = nI (H k) ∧ ∀ i, i < E k → gi r 49 0 (12 * k + i) = nI (A k i)
def PRw (u R : Nat) (E H : Nat → Nat) (A : Nat → Nat → Nat) : Prop := R ≤ 5 ∧ u ≤ 12 ∧ ∀ k, k < R → E k ≤ 12 ∧ H k ≤ E k ∧ ∀ i, i < E k → A k i < u
def TLk (E H : Nat → Nat) (A : Nat → Nat → Nat) (t k : Nat) : Prop := ∃ i, H k + 1 ≤ i ∧ i < E k ∧ A k i = t
def FHk (R : Nat) (E H : Nat → Nat) (A : Nat → Nat → Nat) (k : Nat) : Prop := H k < E k ∧ ∀ j, j < R → ¬ TLk E H A (A k (H k)) j
section RW
variable {u R t : Nat} {E H : Nat → Nat} {A : Nat → Nat → Nat} {c r : zM} {o : Option Nat}
theorem pX2_rowWithInTail (hP : PRw u R E H A) (hC : CRw R E H A c) (ht : t < 12) (ho : IsF (TLk E H A t) R o) : fX2_rowWithInTail (nI t) c = some (zfx o) := by
  unfold fX2_rowWithInTail
  obtain ⟨R5, u12, hP⟩ := hP
  refine zfst_b (g := fun k => nI k) (by omega) ho ?_ (fun k hk => ?_) ?_
  · cases o <;> rfl
  · obtain ⟨p1, p2, p3⟩ := hP k hk
    obtain ⟨q1, q2, q3⟩ := hC.2 k hk
    have hz := zex (L := fX2_rowWithInTail_L19 (nI t) (nI k) c) (P := fun i => A k i = t) (v := nI k) (a := H k + 1) (b := E k) (by omega) (by omega) (fun i h1 h2 => by
      unfold fX2_rowWithInTail_L19
      rw [zo _ (by omega) (by omega), zn_n (by omega), q1, if_neg (fun q => by have := (nIle (by omega) (by omega)).mp q; omega), zo _ (by omega) (by omega), zo _ (by omega) (by omega), zn_n (by omega), q3 i h2, nI_1]
      have := p3 i h2
      exact ⟨fun z => by rw [if_pos (by rw [z])], fun z => by rw [if_neg (fun y => z ((nIeq (by omega) (by omega)).mp y))]⟩) (fun i h1 h2 h3 => by
      unfold fX2_rowWithInTail_L19
      rw [zo _ (by omega) (by omega), zn_n (by omega), q1, if_pos ((nIle (by omega) (by omega)).mpr h2)])
    unfold fX2_rowWithInTail_L2
    rw [hC.1, if_neg (fun q => by have := (nIle (by omega) (by omega)).mp q; omega), zo _ (by omega) (by omega), zn_n (by omega), q2, nI_1, nI_1]
    exact ⟨fun z => by rw [hz.1 z]; rfl, fun z => by rw [hz.2 z]; rfl⟩
  · unfold fX2_rowWithInTail_L2
    rw [hC.1, if_pos (Int32.le_refl _)]
theorem qTailOf (hP : PRw u R E H A) (hC : RRw R E H A r) (ht : t < 12) (ho : IsF (TLk E H A t) R o) : fX10_tailOf (nI R) (nI t) r = some (zfx o) := by
  unfold fX10_tailOf
  obtain ⟨R5, u12, hP⟩ := hP
  refine zfst_b (g := fun k => nI k) (by omega) ho ?_ (fun k hk => ?_) ?_
  · cases o <;> rfl
  · obtain ⟨p1, p2, p3⟩ := hP k hk
    obtain ⟨q1, q2, q3⟩ := hC k hk
    have hz := zex (L := fX10_isInTail_L9 (nI k) (nI t) r) (P := fun i => A k i = t) (v := (1 : Int32)) (a := H k + 1) (b := E k) (by omega) (by omega) (fun i h1 h2 => by
      unfold fX10_isInTail_L9
      rw [zo _ (by omega) (by omega), zn_n (by omega), q1, if_neg (fun q => by have := (nIle (by omega) (by omega)).mp q; omega), l12, pk_mul, nI_add, zo _ (by omega) (by omega), zn_n (by omega), q3 i h2, nI_1]
      have := p3 i h2
      exact ⟨fun z => by rw [if_pos (by rw [z])], fun z => by rw [if_neg (fun y => z ((nIeq (by omega) (by omega)).mp y))]⟩) (fun i h1 h2 h3 => by
      unfold fX10_isInTail_L9
      rw [zo _ (by omega) (by omega), zn_n (by omega), q1, if_pos ((nIle (by omega) (by omega)).mpr h2)])
    unfold fX10_tailOf_L2 fX10_isInTail
    rw [if_neg (fun q => by have := (nIle (by omega) (by omega)).mp q; omega), zo _ (by omega) (by omega), zn_n (by omega), q2, nI_1, nI_1]
    exact ⟨fun z => by rw [hz.1 z]; rfl, fun z => by rw [hz.2 z]; rfl⟩
  · unfold fX10_tailOf_L2
    rw [if_pos (Int32.le_refl _)]
theorem qHeadOf {k : Nat} (hP : PRw u R E H A) (hC : RRw R E H A r) (hk : k < R) : fX10_headOf (nI k) r = some (if H k < E k then nI (A k (H k)) else -1) := by
  unfold fX10_headOf
  obtain ⟨R5, u12, hP⟩ := hP
  obtain ⟨p1, p2, p3⟩ := hP k hk
  obtain ⟨q1, q2, q3⟩ := hC k hk
  rw [zo _ (by omega) (by omega), zo _ (by omega) (by omega), zn_n (by omega), q1, q2]
  by_cases h : H k < E k
  · rw [if_neg (fun q => by have := (nIle (by omega) (by omega)).mp q; omega), zo _ (by omega) (by omega), l12, pk_mul, nI_add, zo _ (by omega) (by omega), zn_n (by omega), q3 _ h, if_pos h]
  · rw [if_pos ((nIle (by omega) (by omega)).mpr (by omega)), if_neg h]
theorem pX2_freeHead (hP : PRw u R E H A) (hC : CRw R E H A c) (ho : IsF (FHk R E H A) R o) : fX2_freeHead c = some (match o with | none => -1 | some k => nI (A k (H k))) := by
  unfold fX2_freeHead
  obtain ⟨R5, u12, hP'⟩ := id hP
  refine zfst_b (g := fun k => nI (A k (H k))) (by omega) ho ?_ (fun k hk => ?_) ?_
  · cases o <;> rfl
  · obtain ⟨p1, p2, p3⟩ := hP' k hk
    obtain ⟨q1, q2, q3⟩ := hC.2 k hk
    unfold fX2_freeHead_L2
    rw [hC.1, if_neg (fun q => by have := (nIle (by omega) (by omega)).mp q; omega), zo _ (by omega) (by omega), zo _ (by omega) (by omega), zn_n (by omega), q1, q2, nI_1]
    by_cases h : H k < E k
    · have ht := p3 _ h
      rw [if_neg (fun q => by have := (nIle (by omega) (by omega)).mp q; omega), zo _ (by omega) (by omega), zo _ (by omega) (by omega), zo _ (by omega) (by omega), zn_n (by omega), q3 _ h]
      obtain ⟨o', ho'⟩ := IsF_ex (TLk E H A (A k (H k))) R
      rw [pX2_rowWithInTail hP hC (by omega) ho', Option.bind_some]
      refine ⟨fun z => ?_, fun z => ?_⟩
      · cases o' with
        | none => rw [if_pos (show zfx none = -1 from rfl)]
        | some j => exact absurd ho'.2.1 (z.2 j ho'.1)
      · cases o' with
        | none => exact absurd ⟨h, ho'⟩ z
        | some j => have := ho'.1; rw [if_neg (zfx_some (by omega))]
    · rw [if_pos ((nIle (by omega) (by omega)).mpr (by omega))]
      exact ⟨fun z => absurd z.1 h, fun _ => rfl⟩
  · unfold fX2_freeHead_L2
    rw [hC.1, if_pos (Int32.le_refl _)]
theorem qNextHead (hP : PRw u R E H A) (hC : RRw R E H A r) (ho : IsF (FHk R E H A) R o) : fX10_nextHead (nI R) r = some (match o with | none => -1 | some k => nI (A k (H k))) := by
  unfold fX10_nextHead
  obtain ⟨R5, u12, hP'⟩ := id hP
  refine zfst_b (g := fun k => nI (A k (H k))) (by omega) ho ?_ (fun k hk => ?_) ?_
  · cases o <;> rfl
  · obtain ⟨p1, p2, p3⟩ := hP' k hk
    unfold fX10_nextHead_L2
    rw [if_neg (fun q => by have := (nIle (by omega) (by omega)).mp q; omega), qHeadOf hP hC hk, Option.bind_some, Option.bind_some, Option.bind_some, nI_1]
    by_cases h : H k < E k
    · have ht := p3 _ h
      obtain ⟨o', ho'⟩ := IsF_ex (TLk E H A (A k (H k))) R
      rw [if_pos h, if_neg (nIm1 (by omega)), qTailOf hP hC (by omega) ho', Option.bind_some]
      refine ⟨fun z => ?_, fun z => ?_⟩
      · cases o' with
        | none => rw [if_pos (show zfx none = -1 from rfl)]
        | some j => exact absurd ho'.2.1 (z.2 j ho'.1)
      · cases o' with
        | none => exact absurd ⟨h, ho'⟩ z
        | some j => have := ho'.1; rw [if_neg (zfx_some (by omega))]
    · rw [if_neg h, if_pos rfl]
      exact ⟨fun z => absurd z.1 h, fun _ => rfl⟩
  · unfold fX10_nextHead_L2
    rw [if_pos (Int32.le_refl _)]
theorem pX2_firstRowLeft (hP : PRw u R E H A) (hC : CRw R E H A c) (ho : IsF (fun k => H k < E k) R o) : fX2_firstRowLeft c = some (zfx o) := by
  unfold fX2_firstRowLeft
  obtain ⟨R5, u12, hP'⟩ := id hP
  refine zfst_b (g := fun k => nI k) (by omega) ho ?_ (fun k hk => ?_) ?_
  · cases o <;> rfl
  · obtain ⟨p1, p2, p3⟩ := hP' k hk
    obtain ⟨q1, q2, q3⟩ := hC.2 k hk
    unfold fX2_firstRowLeft_L2
    rw [hC.1, if_neg (fun q => by have := (nIle (by omega) (by omega)).mp q; omega), zo _ (by omega) (by omega), zo _ (by omega) (by omega), zn_n (by omega), q1, q2, nI_1]
    exact ⟨fun z => by rw [if_neg (fun q => by have := (nIle (by omega) (by omega)).mp q; omega)], fun z => by rw [if_pos ((nIle (by omega) (by omega)).mpr (by omega))]⟩
  · unfold fX2_firstRowLeft_L2
    rw [hC.1, if_pos (Int32.le_refl _)]
theorem qIsLeft (hP : PRw u R E H A) (hC : RRw R E H A r) (ho : IsF (fun k => H k < E k) R o) : fX10_isLeft (nI R) r = some (match o with | none => 0 | some _ => 1) := by
  unfold fX10_isLeft
  obtain ⟨R5, u12, hP'⟩ := id hP
  refine zfst_b (g := fun k => (1 : Int32)) (by omega) ho ?_ (fun k hk => ?_) ?_
  · cases o <;> rfl
  · obtain ⟨p1, p2, p3⟩ := hP' k hk
    unfold fX10_isLeft_L2
    rw [if_neg (fun q => by have := (nIle (by omega) (by omega)).mp q; omega), qHeadOf hP hC hk, Option.bind_some, nI_1]
    refine ⟨fun z => ?_, fun z => ?_⟩
    · have ht := p3 _ z
      rw [if_pos z, if_neg (nIm1 (by omega))]
    · rw [if_neg z, if_pos rfl]
  · unfold fX10_isLeft_L2
    rw [if_pos (Int32.le_refl _)]
/-- the heads that are t are dropped -/
def dH (E H : Nat → Nat) (A : Nat → Nat → Nat) (t k : Nat) : Nat := if H k < E k ∧ A k (H k) = t then H k + 1 else H k
theorem pX2_dropHead (hP : PRw u R E H A) (hC : CRw R E H A c) (ht : t < 12) : ok (fX2_dropHead (nI t) c) (fun c' => CRw R E (dH E H A t) A c' ∧ FS [25] c c') := by
  refine ok_fr ?_ (frX2_dropHead (ks := [25]) (fun k h => h) (FS_refl c))
  unfold fX2_dropHead
  obtain ⟨R5, u12, hP'⟩ := id hP
  refine ok_bind (P := fun o => ∃ c', o = Sum.inl c' ∧ CRw R E (dH E H A t) A c') ?_ (fun o ho => ?_)
  · refine ok_for (fun i s => s.1 = nI i ∧ FS [25] c s.2 ∧ ∀ k, k < R → gi s.2 25 0 k = nI (if k < i then dH E H A t k else H k)) (a := 0) (b := R) (by omega) (by unfold zF; omega) ⟨rfl, FS_refl c, fun k hk => by rw [if_neg (by omega)]; exact (hC.2 k hk).2.1⟩ (fun i s _ hi hI => ?_) (fun s hI => ?_)
    · obtain ⟨s1, m⟩ := s
      obtain ⟨h1, h2, h3⟩ := hI
      dsimp only at h1 h2 h3
      subst h1
      obtain ⟨p1, p2, p3⟩ := hP' i hi
      obtain ⟨q1, q2, q3⟩ := hC.2 i hi
      have e25 := h3 i hi
      rw [if_neg (by omega)] at e25
      have e26 : gi m 26 0 i = nI (E i) := (FSa h2 0 i (by decide) (by decide)).trans q1
      have e2 : gi m 2 0 9 = nI R := (FSf h2 0 (by decide) (by decide)).trans hC.1
      unfold fX2_dropHead_L2
      dsimp only
      rw [e2, zo _ (by omega) (by omega), zo _ (by omega) (by omega), zn_n (by omega), e26, e25, nI_1]
      refine ok_f (fun q => by have := (nIle (by omega) (by omega)).mp q; omega) ?_
      by_cases h : H i < E i
      · have e24 : gi m 24 i (H i) = nI (A i (H i)) := (FSa h2 _ _ (by decide) (by decide)).trans (q3 _ h)
        have hA := p3 _ h
        refine ok_f (fun q => by have := (nIle (by omega) (by omega)).mp q; omega) ?_
        rw [zo _ (by omega) (by omega), zo _ (by omega) (by omega), zo _ (by omega) (by omega), zn_n (by omega), e24, zo _ (by omega) (by omega), zo _ (by omega) (by omega), nI_1]
        by_cases z : A i (H i) = t
        · refine ok_t (by rw [z]) (ok_some (Or.inl ⟨_, rfl, rfl, FS_wa (by decide) (by decide) h2, fun k hk => ?_⟩))
          dsimp only
          rw [gi_wi]
          by_cases y : k = i
          · rw [if_pos ⟨rfl, rfl, y⟩, y, if_pos (by omega)]
            unfold dH
            rw [if_pos ⟨h, z⟩]
          · rw [if_neg (fun x => y x.2.2), h3 k hk]
            by_cases x : k < i
            · rw [if_pos x, if_pos (by omega)]
            · rw [if_neg x, if_neg (by omega)]
        · refine ok_f (fun q => z ((nIeq (by omega) (by omega)).mp q)) (ok_some (Or.inl ⟨_, rfl, rfl, h2, fun k hk => ?_⟩))
          dsimp only
          rw [h3 k hk]
          by_cases y : k = i
          · rw [y, if_neg (by omega), if_pos (by omega)]
            unfold dH
            rw [if_neg (fun x => z x.2)]
          · by_cases x : k < i
            · rw [if_pos x, if_pos (by omega)]
            · rw [if_neg x, if_neg (by omega)]
      · refine ok_t ((nIle (by omega) (by omega)).mpr (by omega)) (ok_some (Or.inl ⟨_, rfl, rfl, h2, fun k hk => ?_⟩))
        dsimp only
        rw [h3 k hk]
        by_cases y : k = i
        · rw [y, if_neg (by omega), if_pos (by omega)]
          unfold dH
          rw [if_neg (fun x => h x.1)]
        · by_cases x : k < i
          · rw [if_pos x, if_pos (by omega)]
          · rw [if_neg x, if_neg (by omega)]
    · obtain ⟨s1, m⟩ := s
      obtain ⟨h1, h2, h3⟩ := hI
      dsimp only at h1 h2 h3
      subst h1
      have e2 : gi m 2 0 9 = nI R := (FSf h2 0 (by decide) (by decide)).trans hC.1
      unfold fX2_dropHead_L2
      dsimp only
      rw [e2]
      refine ok_t (Int32.le_refl _) (ok_some ⟨_, rfl, m, rfl, e2, fun k hk => ?_⟩)
      obtain ⟨q1, q2, q3⟩ := hC.2 k hk
      have := h3 k hk
      rw [if_pos hk] at this
      exact ⟨(FSa h2 0 k (by decide) (by decide)).trans q1, this, fun i hi => (FSa h2 _ _ (by decide) (by decide)).trans (q3 i hi)⟩
  · obtain ⟨c', rfl, h⟩ := ho
    exact ok_some h
theorem qDrop {p : Nat} {v1 v3 : Int32} (hP : PRw u (p + 1) E H A) (hC : RRw (p + 1) E H A r) (ht : t < 12) : ok (zloop (fX10_laysLine_L210 v1 (nI p) v3 (nI t)) zF (0, r)) (fun o => ∃ r', o = Sum.inl r' ∧ RRw (p + 1) E (dH E H A t) A r' ∧ FS [51] r r') := by
  obtain ⟨R5, u12, hP'⟩ := id hP
  refine ok_for (fun i s => s.1 = nI i ∧ FS [51] r s.2 ∧ ∀ k, k < p + 1 → gi s.2 51 0 k = nI (if k < i then dH E H A t k else H k)) (a := 0) (b := p + 1) (by omega) (by unfold zF; omega) ⟨rfl, FS_refl r, fun k hk => by rw [if_neg (by omega)]; exact (hC k hk).2.1⟩ (fun i s _ hi hI => ?_) (fun s hI => ?_)
  · obtain ⟨s1, m⟩ := s
    obtain ⟨h1, h2, h3⟩ := hI
    dsimp only at h1 h2 h3
    subst h1
    obtain ⟨p1, p2, p3⟩ := hP' i hi
    obtain ⟨q1, q2, q3⟩ := hC i hi
    have e51 := h3 i hi
    rw [if_neg (by omega)] at e51
    have hh : fX10_headOf (nI i) m = some (if H i < E i then nI (A i (H i)) else -1) := by
      unfold fX10_headOf
      rw [zo _ (by omega) (by omega), zo _ (by omega) (by omega), zn_n (by omega), FSa h2 0 i (by decide) (by decide), q1, e51]
      by_cases h : H i < E i
      · rw [if_neg (fun q => by have := (nIle (by omega) (by omega)).mp q; omega), zo _ (by omega) (by omega), l12, pk_mul, nI_add, zo _ (by omega) (by omega), zn_n (by omega), FSa h2 0 _ (by decide) (by decide), q3 _ h, if_pos h]
      · rw [if_pos ((nIle (by omega) (by omega)).mpr (by omega)), if_neg h]
    unfold fX10_laysLine_L210
    dsimp only
    rw [hh, Option.bind_some, zo _ (by omega) (by omega), zn_n (by omega), e51]
    refine ok_f (fun q => by have := (nIlt (by omega) (by omega)).mp q; omega) ?_
    have key : ∀ x : Nat, x < 2 → H i + x = dH E H A t i → ok (fX10_laysLine_J240 v1 (nI p) v3 (nI t) (nI i) (nI x) (nI (H i)) (nI i) m) (fun o => (∃ s', o = Sum.inl s' ∧ s'.1 = nI (i + 1) ∧ FS [51] r s'.2 ∧ ∀ k, k < p + 1 → gi s'.2 51 0 k = nI (if k < i + 1 then dH E H A t k else H k)) ∨ ∃ e, o = Sum.inr e ∧ ∃ r', e = Sum.inl r' ∧ RRw (p + 1) E (dH E H A t) A r' ∧ FS [51] r r') := fun x hx hd => by
      unfold fX10_laysLine_J240
      have ex : fX10_truth (nI x) m = some (nI x) := by
        unfold fX10_truth
        match x, hx with
        | 0, _ => rfl
        | 1, _ => rfl
      rw [ex, Option.bind_some, zo _ (by omega) (by omega), zn_n (by omega), nI_add, nI_1]
      refine ok_some (Or.inl ⟨_, rfl, rfl, FS_wa (by decide) (by decide) h2, fun k hk => ?_⟩)
      dsimp only
      rw [gi_wi]
      by_cases y : k = i
      · rw [if_pos ⟨rfl, rfl, y⟩, y, if_pos (by omega), hd]
      · rw [if_neg (fun x => y x.2.2), h3 k hk]
        by_cases x : k < i
        · rw [if_pos x, if_pos (by omega)]
        · rw [if_neg x, if_neg (by omega)]
    by_cases h : H i < E i
    · have hA := p3 _ h
      rw [if_pos h]
      by_cases z : A i (H i) = t
      · refine ok_t (by rw [z]) (key 1 (by omega) ?_)
        unfold dH
        rw [if_pos ⟨h, z⟩]
      · refine ok_f (fun q => z ((nIeq (by omega) (by omega)).mp q)) (key 0 (by omega) ?_)
        unfold dH
        rw [if_neg (fun x => z x.2)]
        rfl
    · rw [if_neg h]
      refine ok_f (fun q => m1ne (a := t) (by omega) q) (key 0 (by omega) ?_)
      unfold dH
      rw [if_neg (fun x => h x.1)]
      rfl
  · obtain ⟨s1, m⟩ := s
    obtain ⟨h1, h2, h3⟩ := hI
    dsimp only at h1 h2 h3
    subst h1
    unfold fX10_laysLine_L210
    dsimp only
    refine ok_t ((nIlt (by omega) (by omega)).mpr (by omega)) (ok_some ⟨_, rfl, m, rfl, fun k hk => ?_, h2⟩)
    obtain ⟨q1, q2, q3⟩ := hC k hk
    have := h3 k hk
    rw [if_pos hk] at this
    exact ⟨(FSa h2 0 k (by decide) (by decide)).trans q1, this, fun i hi => (FSa h2 _ _ (by decide) (by decide)).trans (q3 i hi)⟩
theorem PRw_drop (hP : PRw u R E H A) (t : Nat) : PRw u R E (dH E H A t) A := by
  obtain ⟨R5, u12, hP'⟩ := hP
  refine ⟨R5, u12, fun k hk => ?_⟩
  obtain ⟨p1, p2, p3⟩ := hP' k hk
  refine ⟨p1, ?_, p3⟩
  unfold dH
  split <;> omega
end RW
