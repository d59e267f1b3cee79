/-! the pure part: numbers, loops, two runs side by side -/
theorem zn_n {a : Nat} (h : a < 2147483648) : zn (nI a) = a := nI_clamp h
theorem zin_n {a n : Nat} (h : a < n) (hn : n < 2147483648) : zin (nI a) n = true := by
  unfold zin
  rw [nI_clamp (by omega)]
  have := nI_pos (n := a) (by omega)
  simp [this, h]
theorem zin_e {x : Int32} {n : Nat} (h : zin x n = true) : ∃ a, a < n ∧ x = nI a ∧ a < 2147483648 := by
  have h1 := zin_vp h
  obtain ⟨j, hj, e⟩ := nI_of (x := x) (fun q => h1 (Or.inl q))
  refine ⟨j, ?_, e, hj⟩
  have := zin_lt h
  rw [e, nI_clamp hj] at this
  exact this
theorem zin_z {x : Int32} {n : Nat} (h : zin x n = true) : x = nI (zn x) ∧ zn x < n ∧ zn x < 2147483648 := by
  obtain ⟨a, ha, e, hb⟩ := zin_e h
  subst e
  rw [zn_n hb]
  exact ⟨rfl, ha, hb⟩
theorem nIle {a b : Nat} (ha : a < 2147483648) (hb : b < 2147483648) : nI a ≤ nI b ↔ a ≤ b := nI_leI ha hb
theorem nIlt {a b : Nat} (ha : a < 2147483648) (hb : b < 2147483648) : nI a < nI b ↔ a < b := nI_ltI ha hb
theorem nIeq {a b : Nat} (ha : a < 2147483648) (hb : b < 2147483648) : nI a = nI b ↔ a = b := nI_eq ha hb
theorem nIlit (n : Nat) : (OfNat.ofNat n : Int32) = nI n := rfl
theorem nIm1 {a : Nat} (h : a < 2147483648) : ¬ nI a = -1 := fun e => by
  have h1 := congrArg Int32.toInt e
  rw [nI_toInt h] at h1
  have h2 : (-1 : Int32).toInt = -1 := by decide
  omega
theorem m1ne {a : Nat} (h : a < 2147483648) : ¬ -1 = nI a := fun e => nIm1 h e.symm
theorem m1lt {a : Nat} (h : a < 2147483648) : -1 < nI a := by
  rw [Int32.lt_iff_toInt_lt, nI_toInt h]
  have h2 : (-1 : Int32).toInt = -1 := by decide
  omega
/-- a whole that comes out, and what it comes to -/
def ok {α : Type} (x : Option α) (Q : α → Prop) : Prop := ∃ a, x = some a ∧ Q a
def ok2 {α β : Type} (x : Option α) (y : Option β) (Q : α → β → Prop) : Prop := ∃ a b, x = some a ∧ y = some b ∧ Q a b
theorem ok_some {α : Type} {Q : α → Prop} {a : α} (h : Q a) : ok (some a) Q := ⟨a, rfl, h⟩
theorem ok_mono {α : Type} {P Q : α → Prop} {x : Option α} (h : ok x P) (k : ∀ a, P a → Q a) : ok x Q := by
  obtain ⟨a, e, p⟩ := h
  exact ⟨a, e, k a p⟩
theorem ok_fr {α : Type} {P F : α → Prop} {x : Option α} (h : ok x P) (f : Fr F x) : ok x (fun a => P a ∧ F a) := by
  obtain ⟨a, e, p⟩ := h
  exact ⟨a, e, p, f a e⟩
theorem ok_bind {α β : Type} {P : α → Prop} {Q : β → Prop} {x : Option α} {f : α → Option β} (h : ok x P) (k : ∀ a, P a → ok (f a) Q) : ok (x.bind f) Q := by
  obtain ⟨a, rfl, p⟩ := h
  exact k a p
theorem ok_bs {α β : Type} {Q : β → Prop} {x : Option α} {f : α → Option β} {a : α} (h : x = some a) (k : ok (f a) Q) : ok (x.bind f) Q := by
  subst h
  exact k
theorem ok_zob {α : Type} {Q : α → Prop} {b : Bool} {x : Option α} (hb : b = true) (h : ok x Q) : ok (zob b x) Q := by
  rw [zob_t x hb]
  exact h
theorem ok_if {α : Type} {Q : α → Prop} {c : Prop} {i : Decidable c} {x y : Option α} (h1 : c → ok x Q) (h2 : ¬ c → ok y Q) : ok (@ite _ c i x y) Q := by
  by_cases hc : c
  · rw [if_pos hc]; exact h1 hc
  · rw [if_neg hc]; exact h2 hc
theorem ok_t {α : Type} {Q : α → Prop} {c : Prop} {i : Decidable c} {x y : Option α} (hc : c) (h1 : ok x Q) : ok (@ite _ c i x y) Q := by
  rw [if_pos hc]; exact h1
theorem ok_f {α : Type} {Q : α → Prop} {c : Prop} {i : Decidable c} {x y : Option α} (hc : ¬ c) (h1 : ok y Q) : ok (@ite _ c i x y) Q := by
  rw [if_neg hc]; exact h1
theorem ok_loop {σ ε ρ : Type} {L : σ → Option (σ ⊕ (ε ⊕ ρ))} {Q : ε ⊕ ρ → Prop} {I : Nat → σ → Prop} (hL : ∀ n s, I n s → ok (L s) (fun o => (∃ s' n', o = .inl s' ∧ n' < n ∧ I n' s') ∨ ∃ e, o = .inr e ∧ Q e)) : ∀ (f n : Nat) (s : σ), I n s → n < f → ok (zloop L f s) Q
  | 0, n, s, _, h => by omega
  | f + 1, n, s, hI, h => by
    obtain ⟨o, e1, h1 | h1⟩ := hL n s hI
    · obtain ⟨s', n', rfl, hn, hI'⟩ := h1
      rw [zloop_n e1]
      exact ok_loop hL f n' s' hI' (by omega)
    · obtain ⟨e, rfl, hq⟩ := h1
      rw [zloop_e e1]
      exact ⟨e, rfl, hq⟩
/-- for i from a up to b: what holds at i holds after i steps, or there is an early end -/
theorem ok_for {σ ε ρ : Type} {L : σ → Option (σ ⊕ (ε ⊕ ρ))} {Q : ε ⊕ ρ → Prop} (I : Nat → σ → Prop) {a b f : Nat} {s : σ} (hab : a ≤ b) (hf : b < f) (h0 : I a s) (hL : ∀ i s, a ≤ i → i < b → I i s → ok (L s) (fun o => (∃ s', o = .inl s' ∧ I (i + 1) s') ∨ ∃ e, o = .inr e ∧ Q e)) (he : ∀ s, I b s → ok (L s) (fun o => ∃ e, o = .inr e ∧ Q e)) : ok (zloop L f s) Q := by
  refine ok_loop (I := fun n s => ∃ i, a ≤ i ∧ i ≤ b ∧ n = b - i ∧ I i s) (fun n s hI => ?_) f (b - a) s ⟨a, Nat.le_refl a, hab, rfl, h0⟩ (by omega)
  obtain ⟨i, h1, h2, rfl, h3⟩ := hI
  by_cases hi : i = b
  · subst hi
    exact ok_mono (he s h3) (fun o h => Or.inr h)
  · refine ok_mono (hL i s h1 (by omega) h3) (fun o h => ?_)
    rcases h with ⟨s', rfl, h4⟩ | h
    · exact Or.inl ⟨s', b - (i + 1), rfl, by omega, i + 1, by omega, by omega, rfl, h4⟩
    · exact Or.inr h
theorem ok2_of {α β : Type} {P : α → Prop} {R : β → Prop} {Q : α → β → Prop} {x : Option α} {y : Option β} (h : ok x P) (k : ok y R) (q : ∀ a b, P a → R b → Q a b) : ok2 x y Q := by
  obtain ⟨a, e1, p⟩ := h
  obtain ⟨b, e2, r⟩ := k
  exact ⟨a, b, e1, e2, q a b p r⟩
theorem ok2_mono {α β : Type} {P Q : α → β → Prop} {x : Option α} {y : Option β} (h : ok2 x y P) (k : ∀ a b, P a b → Q a b) : ok2 x y Q := by
  obtain ⟨a, b, e1, e2, p⟩ := h
  exact ⟨a, b, e1, e2, k a b p⟩
theorem ok2_fr {α β : Type} {P : α → β → Prop} {F : α → Prop} {G : β → Prop} {x : Option α} {y : Option β} (h : ok2 x y P) (f : Fr F x) (g : Fr G y) : ok2 x y (fun a b => P a b ∧ F a ∧ G b) := by
  obtain ⟨a, b, e1, e2, p⟩ := h
  exact ⟨a, b, e1, e2, p, f a e1, g b e2⟩
theorem ok2_some {α β : Type} {Q : α → β → Prop} {a : α} {b : β} (h : Q a b) : ok2 (some a) (some b) Q := ⟨a, b, rfl, rfl, h⟩
theorem ok2_bind {α β γ δ : Type} {P : α → β → Prop} {Q : γ → δ → Prop} {x : Option α} {y : Option β} {f : α → Option γ} {g : β → Option δ} (h : ok2 x y P) (k : ∀ a b, P a b → ok2 (f a) (g b) Q) : ok2 (x.bind f) (y.bind g) Q := by
  obtain ⟨a, b, rfl, rfl, p⟩ := h
  exact k a b p
theorem ok2_l {α β γ : Type} {P : α → Prop} {Q : γ → β → Prop} {x : Option α} {y : Option β} {f : α → Option γ} (h : ok x P) (k : ∀ a, P a → ok2 (f a) y Q) : ok2 (x.bind f) y Q := by
  obtain ⟨a, rfl, p⟩ := h
  exact k a p
theorem ok2_r {α β δ : Type} {P : β → Prop} {Q : α → δ → Prop} {x : Option α} {y : Option β} {g : β → Option δ} (h : ok y P) (k : ∀ b, P b → ok2 x (g b) Q) : ok2 x (y.bind g) Q := by
  obtain ⟨b, rfl, p⟩ := h
  exact k b p
theorem ok2_ls {α β γ : Type} {Q : γ → β → Prop} {x : Option α} {y : Option β} {f : α → Option γ} {a : α} (h : x = some a) (k : ok2 (f a) y Q) : ok2 (x.bind f) y Q := by
  subst h
  exact k
theorem ok2_rs {α β δ : Type} {Q : α → δ → Prop} {x : Option α} {y : Option β} {g : β → Option δ} {b : β} (h : y = some b) (k : ok2 x (g b) Q) : ok2 x (y.bind g) Q := by
  subst h
  exact k
theorem ok2_zl {α β : Type} {Q : α → β → Prop} {b : Bool} {x : Option α} {y : Option β} (hb : b = true) (h : ok2 x y Q) : ok2 (zob b x) y Q := by
  rw [zob_t x hb]; exact h
theorem ok2_zr {α β : Type} {Q : α → β → Prop} {b : Bool} {x : Option α} {y : Option β} (hb : b = true) (h : ok2 x y Q) : ok2 x (zob b y) Q := by
  rw [zob_t y hb]; exact h
theorem ok2_tl {α β : Type} {Q : α → β → Prop} {c : Prop} {i : Decidable c} {x x' : Option α} {y : Option β} (hc : c) (h : ok2 x y Q) : ok2 (@ite _ c i x x') y Q := by
  rw [if_pos hc]; exact h
theorem ok2_fl {α β : Type} {Q : α → β → Prop} {c : Prop} {i : Decidable c} {x x' : Option α} {y : Option β} (hc : ¬ c) (h : ok2 x' y Q) : ok2 (@ite _ c i x x') y Q := by
  rw [if_neg hc]; exact h
theorem ok2_tr {α β : Type} {Q : α → β → Prop} {c : Prop} {i : Decidable c} {x : Option α} {y y' : Option β} (hc : c) (h : ok2 x y Q) : ok2 x (@ite _ c i y y') Q := by
  rw [if_pos hc]; exact h
theorem ok2_fr' {α β : Type} {Q : α → β → Prop} {c : Prop} {i : Decidable c} {x : Option α} {y y' : Option β} (hc : ¬ c) (h : ok2 x y' Q) : ok2 x (@ite _ c i y y') Q := by
  rw [if_neg hc]; exact h
/-- the same question on both sides -/
theorem ok2_if {α β : Type} {Q : α → β → Prop} {c d : Prop} {i : Decidable c} {j : Decidable d} {x x' : Option α} {y y' : Option β} (hcd : c ↔ d) (h1 : c → d → ok2 x y Q) (h2 : ¬ c → ¬ d → ok2 x' y' Q) : ok2 (@ite _ c i x x') (@ite _ d j y y') Q := by
  by_cases hc : c
  · rw [if_pos hc, if_pos (hcd.mp hc)]; exact h1 hc (hcd.mp hc)
  · rw [if_neg hc, if_neg (fun q => hc (hcd.mpr q))]; exact h2 hc (fun q => hc (hcd.mpr q))
/-- two loops in step -/
theorem ok2_loop {σ τ ε ρ ε' ρ' : Type} {L : σ → Option (σ ⊕ (ε ⊕ ρ))} {M : τ → Option (τ ⊕ (ε' ⊕ ρ'))} {Q : ε ⊕ ρ → ε' ⊕ ρ' → Prop} {I : Nat → σ → τ → Prop} (hL : ∀ n s t, I n s t → ok2 (L s) (M t) (fun o p => (∃ s' t' n', o = .inl s' ∧ p = .inl t' ∧ n' < n ∧ I n' s' t') ∨ ∃ e e', o = .inr e ∧ p = .inr e' ∧ Q e e')) : ∀ (f g n : Nat) (s : σ) (t : τ), I n s t → n < f → n < g → ok2 (zloop L f s) (zloop M g t) Q
  | 0, g, n, s, t, _, h, _ => by omega
  | f + 1, 0, n, s, t, _, _, h => by omega
  | f + 1, g + 1, n, s, t, hI, h, h' => by
    obtain ⟨o, p, e1, e2, h1 | h1⟩ := hL n s t hI
    · obtain ⟨s', t', n', rfl, rfl, hn, hI'⟩ := h1
      rw [zloop_n e1, zloop_n e2]
      exact ok2_loop hL f g n' s' t' hI' (by omega) (by omega)
    · obtain ⟨e, e', rfl, rfl, hq⟩ := h1
      rw [zloop_e e1, zloop_e e2]
      exact ⟨e, e', rfl, rfl, hq⟩
theorem ok2_for {σ τ ε ρ ε' ρ' : Type} {L : σ → Option (σ ⊕ (ε ⊕ ρ))} {M : τ → Option (τ ⊕ (ε' ⊕ ρ'))} {Q : ε ⊕ ρ → ε' ⊕ ρ' → Prop} (I : Nat → σ → τ → Prop) {a b f g : Nat} {s : σ} {t : τ} (hab : a ≤ b) (hf : b < f) (hg : b < g) (h0 : I a s t) (hL : ∀ i s t, a ≤ i → i < b → I i s t → ok2 (L s) (M t) (fun o p => (∃ s' t', o = .inl s' ∧ p = .inl t' ∧ I (i + 1) s' t') ∨ ∃ e e', o = .inr e ∧ p = .inr e' ∧ Q e e')) (he : ∀ s t, I b s t → ok2 (L s) (M t) (fun o p => ∃ e e', o = .inr e ∧ p = .inr e' ∧ Q e e')) : ok2 (zloop L f s) (zloop M g t) Q := by
  refine ok2_loop (I := fun n s t => ∃ i, a ≤ i ∧ i ≤ b ∧ n = b - i ∧ I i s t) (fun n s t hI => ?_) f g (b - a) s t ⟨a, Nat.le_refl a, hab, rfl, h0⟩ (by omega) (by omega)
  obtain ⟨i, h1, h2, rfl, h3⟩ := hI
  by_cases hi : i = b
  · subst hi
    exact ok2_mono (he s t h3) (fun o p h => Or.inr h)
  · refine ok2_mono (hL i s t h1 (by omega) h3) (fun o p h => ?_)
    rcases h with ⟨s', t', rfl, rfl, h4⟩ | h
    · exact Or.inl ⟨s', t', b - (i + 1), rfl, rfl, by omega, i + 1, by omega, by omega, rfl, h4⟩
    · exact Or.inr h
/-- the first place of a thing among n -/
def zfd (f : Nat → Int32) (x : Int32) : Nat → Option Nat
  | 0 => none
  | n + 1 => match zfd f x n with
    | some k => some k
    | none => if f n = x then some n else none
def zfx (o : Option Nat) : Int32 := match o with
  | none => -1
  | some k => nI k
theorem zfd_none {f : Nat → Int32} {x : Int32} : ∀ {n : Nat}, zfd f x n = none → ∀ k, k < n → f k ≠ x
  | 0, _, k, hk => by omega
  | n + 1, h, k, hk => by
    unfold zfd at h
    cases h1 : zfd f x n with
    | some j => rw [h1] at h; cases h
    | none =>
      rw [h1] at h
      by_cases h2 : f n = x
      · simp [h2] at h
      · by_cases h3 : k = n
        · subst h3; exact h2
        · exact zfd_none h1 k (by omega)
theorem zfd_some {f : Nat → Int32} {x : Int32} : ∀ {n j : Nat}, zfd f x n = some j → j < n ∧ f j = x ∧ ∀ k, k < j → f k ≠ x
  | 0, j, h => by cases h
  | n + 1, j, h => by
    unfold zfd at h
    cases h1 : zfd f x n with
    | some i =>
      rw [h1] at h
      obtain ⟨a, b, c⟩ := zfd_some h1
      have : i = j := by simpa using h
      subst this
      exact ⟨by omega, b, c⟩
    | none =>
      rw [h1] at h
      by_cases h2 : f n = x
      · have : n = j := by simpa [h2] using h
        subst this
        exact ⟨by omega, h2, fun k hk => zfd_none h1 k hk⟩
      · simp [h2] at h
theorem zfd_is {f : Nat → Int32} {x : Int32} {n j : Nat} (h1 : j < n) (h2 : f j = x) (h3 : ∀ k, k < j → f k ≠ x) : zfd f x n = some j := by
  cases h : zfd f x n with
  | none => exact absurd h2 (zfd_none h j h1)
  | some i =>
    obtain ⟨a, b, c⟩ := zfd_some h
    have hi1 : ¬ i < j := fun q => h3 i q b
    have hi2 : ¬ j < i := fun q => c j q h2
    rw [show i = j by omega]
theorem zfd_no {f : Nat → Int32} {x : Int32} {n : Nat} (h : ∀ k, k < n → f k ≠ x) : zfd f x n = none := by
  cases h1 : zfd f x n with
  | none => rfl
  | some i => exact absurd (zfd_some h1).2.1 (h i (zfd_some h1).1)
theorem zfd_cg {f g : Nat → Int32} {x : Int32} {n : Nat} (h : ∀ k, k < n → f k = g k) : zfd f x n = zfd g x n := by
  cases h1 : zfd g x n with
  | none => exact zfd_no (fun k hk => by rw [h k hk]; exact zfd_none h1 k hk)
  | some i =>
    obtain ⟨a, b, c⟩ := zfd_some h1
    exact zfd_is a (by rw [h i a]; exact b) (fun k hk => by rw [h k (by omega)]; exact c k hk)
/-- a loop that looks for the first place -/
theorem zfd_loop {L : Int32 → Option (Int32 ⊕ (Unit ⊕ Int32))} {f : Nat → Int32} {x : Int32} {n : Nat} (hn : n < 20000) (hend : L (nI n) = some (.inr (.inl ()))) (hgo : ∀ k, k < n → L (nI k) = if f k = x then some (.inr (.inr (nI k))) else some (.inl (nI (k + 1)))) : (zloop L zF 0).bind (fun o => zcase o (fun _ => some (-1 : Int32)) (fun r => some r)) = some (zfx (zfd f x n)) := by
  have h : ok (zloop L zF 0) (fun o => zcase o (fun _ => some (-1 : Int32)) (fun r => some r) = some (zfx (zfd f x n))) := by
    refine ok_for (fun i s => s = nI i ∧ ∀ k, k < i → f k ≠ x) (a := 0) (b := n) (Nat.zero_le n) hn ⟨rfl, fun k hk => by omega⟩ (fun i s _ hi hI => ?_) (fun s hI => ?_)
    · obtain ⟨rfl, h2⟩ := hI
      rw [hgo i hi]
      by_cases hx : f i = x
      · rw [if_pos hx]
        exact ok_some (Or.inr ⟨_, rfl, by rw [zfd_is hi hx h2]; rfl⟩)
      · rw [if_neg hx]
        exact ok_some (Or.inl ⟨_, rfl, rfl, fun k hk => by
          by_cases hk2 : k = i
          · subst hk2; exact hx
          · exact h2 k (by omega)⟩)
    · obtain ⟨rfl, h2⟩ := hI
      rw [hend]
      exact ok_some ⟨_, rfl, by rw [zfd_no h2]; rfl⟩
  obtain ⟨o, e, h⟩ := h
  rw [e]
  exact h
