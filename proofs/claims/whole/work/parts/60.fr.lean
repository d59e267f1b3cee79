/-! frames: what a function leaves as it was -/
def zisf (k : Nat) : Bool := [1, 2, 3, 4, 6, 9, 10].contains k
def zcd (k s : Nat) : Nat := if zisf k = true then 1000 + 100 * k + s else k
def FS (ks : List Nat) (m0 m : zM) : Prop := (∀ k i s, zcd k s ∉ ks → gi m k i s = gi m0 k i s) ∧ (53 ∉ ks → ∀ s, gl m s = gl m0 s) ∧ (∀ k s, 100 + k ∉ ks → gr m k s = gr m0 k s)
theorem FS_refl {ks : List Nat} (m : zM) : FS ks m m := ⟨fun _ _ _ _ => rfl, fun _ _ => rfl, fun _ _ _ => rfl⟩
theorem FS_wa {ks : List Nat} {m0 m : zM} {k i s : Nat} {v : Int32} (hf : zisf k = false) (hk : k ∈ ks) (h : FS ks m0 m) : FS ks m0 (wi m k i s v) := by
  refine ⟨fun a b c hc => ?_, h.2.1, h.2.2⟩
  rw [gi_wi, if_neg]
  · exact h.1 a b c hc
  · rintro ⟨rfl, -, -⟩
    exact hc (by unfold zcd; rw [if_neg (by rw [hf]; decide)]; exact hk)
theorem FS_wf {ks : List Nat} {m0 m : zM} {k i s : Nat} {v : Int32} (hf : zisf k = true) (hk : 1000 + 100 * k + s ∈ ks) (h : FS ks m0 m) : FS ks m0 (wi m k i s v) := by
  refine ⟨fun a b c hc => ?_, h.2.1, h.2.2⟩
  rw [gi_wi, if_neg]
  · exact h.1 a b c hc
  · rintro ⟨rfl, -, rfl⟩
    exact hc (by unfold zcd; rw [if_pos hf]; exact hk)
theorem FS_wr {ks : List Nat} {m0 m : zM} {k s : Nat} {v : Option Nat} (hk : 100 + k ∈ ks) (h : FS ks m0 m) : FS ks m0 (wr m k s v) := by
  refine ⟨h.1, h.2.1, fun a c hc => ?_⟩
  rw [gr_wr, if_neg]
  · exact h.2.2 a c hc
  · rintro ⟨rfl, -⟩
    exact hc hk
theorem FS_wl {ks : List Nat} {m0 m : zM} {s : Nat} {v : Int64} (hk : 53 ∈ ks) (h : FS ks m0 m) : FS ks m0 (wl m s v) := ⟨h.1, fun hc => absurd hk hc, h.2.2⟩
theorem FS_zcp {ks : List Nat} {m0 m : zM} {k i sp k2 i2 dp n : Nat} (hf : zisf k2 = false) (hk : k2 ∈ ks) (h : FS ks m0 m) : FS ks m0 (zcp m k i sp k2 i2 dp n) := by
  refine ⟨fun a b c hc => ?_, h.2.1, h.2.2⟩
  rw [gi_zcp, if_neg]
  · exact h.1 a b c hc
  · rintro ⟨rfl, -, -⟩
    exact hc (by unfold zcd; rw [if_neg (by rw [hf]; decide)]; exact hk)
theorem FS_mono {ks ks' : List Nat} {m0 m : zM} (hk : ∀ k ∈ ks, k ∈ ks') (h : FS ks m0 m) : FS ks' m0 m := ⟨fun k i s hc => h.1 k i s (fun q => hc (hk _ q)), fun hc => h.2.1 (fun q => hc (hk _ q)), fun k s hc => h.2.2 k s (fun q => hc (hk _ q))⟩
theorem FS_tr {ks : List Nat} {m0 m m' : zM} (h : FS ks m0 m) (h' : FS ks m m') : FS ks m0 m' := ⟨fun k i s hc => (h'.1 k i s hc).trans (h.1 k i s hc), fun hc s => (h'.2.1 hc s).trans (h.2.1 hc s), fun k s hc => (h'.2.2 k s hc).trans (h.2.2 k s hc)⟩
theorem zss {a b : List Nat} (h : a.all (fun k => b.contains k) = true) : ∀ k ∈ a, k ∈ b := fun k hk => by
  have := List.all_eq_true.mp h k hk
  simpa using this
def Fr {α : Type} (P : α → Prop) (x : Option α) : Prop := ∀ a, x = some a → P a
theorem Fr_some {α : Type} {P : α → Prop} {a : α} (h : P a) : Fr P (some a) := fun b hb => by cases hb; exact h
theorem Fr_ite {α : Type} {P : α → Prop} {c : Prop} {i : Decidable c} {x y : Option α} (h1 : Fr P x) (h2 : Fr P y) : Fr P (@ite _ c i x y) := by
  by_cases hc : c
  · rw [if_pos hc]; exact h1
  · rw [if_neg hc]; exact h2
theorem Fr_zob {α : Type} {P : α → Prop} {b : Bool} {x : Option α} (h1 : Fr P x) : Fr P (zob b x) := fun a ha => h1 a (zobd ha).2
theorem Fr_bind {α β : Type} {P : α → Prop} {Q : β → Prop} {x : Option α} {f : α → Option β} (h : Fr P x) (k : ∀ a, P a → Fr Q (f a)) : Fr Q (x.bind f) := fun b hb => by
  obtain ⟨a, ha, hf⟩ := zbd hb
  exact k a (h a ha) b hf
theorem Fr_b0 {α β : Type} {Q : β → Prop} {x : Option α} {f : α → Option β} (k : ∀ a, Fr Q (f a)) : Fr Q (x.bind f) := Fr_bind (P := fun _ => True) (fun _ _ => trivial) (fun a _ => k a)
theorem Fr_el {α : Type} {P : α → Prop} (r : Empty) : Fr P (r.elim : Option α) := r.elim
theorem Fr_loop {σ ε ρ : Type} {pS : σ → Prop} {pE : ε → Prop} {pR : ρ → Prop} {L : σ → Option (σ ⊕ (ε ⊕ ρ))} (hL : ∀ s, pS s → Fr (Sum.elim pS (Sum.elim pE pR)) (L s)) : ∀ (n : Nat) (s : σ), pS s → Fr (Sum.elim pE pR) (zloop L n s)
  | 0, s, _ => fun a ha => (zloop_0 ha).elim
  | n + 1, s, hs => fun a ha => by
    obtain ⟨o1, h1, h2, h3⟩ := zloop_s ha
    have h4 := hL s hs o1 h1
    cases o1 with
    | inl s' => exact Fr_loop hL n s' h4 a (h2 s' rfl)
    | inr e => rw [h3 e rfl]; exact h4
theorem Fr_lc {σ ε ρ β : Type} {pS : σ → Prop} {pE : ε → Prop} {pR : ρ → Prop} {Q : β → Prop} {L : σ → Option (σ ⊕ (ε ⊕ ρ))} {n : Nat} {s0 : σ} {F : ε → Option β} {G : ρ → Option β} (hL : ∀ s, pS s → Fr (Sum.elim pS (Sum.elim pE pR)) (L s)) (h0 : pS s0) (hF : ∀ e, pE e → Fr Q (F e)) (hG : ∀ r, pR r → Fr Q (G r)) : Fr Q ((zloop L n s0).bind (fun o => zcase o (fun e => F e) (fun r => G r))) := by
  refine Fr_bind (Fr_loop hL n s0 h0) (fun o ho => ?_)
  cases o with
  | inl e => exact hF e ho
  | inr r => exact hG r ho
theorem Fr_lc0 {σ ε ρ β : Type} {Q : β → Prop} {L : σ → Option (σ ⊕ (ε ⊕ ρ))} {n : Nat} {s0 : σ} {F : ε → Option β} {G : ρ → Option β} (hF : ∀ e, Fr Q (F e)) (hG : ∀ r, Fr Q (G r)) : Fr Q ((zloop L n s0).bind (fun o => zcase o (fun e => F e) (fun r => G r))) := by
  refine Fr_b0 (fun o => ?_)
  cases o with
  | inl e => exact hF e
  | inr r => exact hG r
