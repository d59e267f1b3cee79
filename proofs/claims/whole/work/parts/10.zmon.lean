/-! the programs as functions: what may fail is an Option; loops have a number of turns -/
def zob {α : Type} (b : Bool) (x : Option α) : Option α := if b = true then x else none
theorem zobd {α : Type} {b : Bool} {x : Option α} {o : α} (h : zob b x = some o) : b = true ∧ x = some o := by
  unfold zob at h
  split at h
  · exact ⟨by assumption, h⟩
  · cases h
theorem zob_t {α : Type} {b : Bool} (x : Option α) (h : b = true) : zob b x = x := if_pos h
theorem zbd {α β : Type} {x : Option α} {f : α → Option β} {o : β} (h : x.bind f = some o) : ∃ a, x = some a ∧ f a = some o := by
  cases x with
  | none => cases h
  | some a => exact ⟨a, rfl, h⟩
theorem zpos {α : Type} {c : Prop} {i : Decidable c} {a b : Option α} {o : α} (hc : c) (h : (@ite _ c i a b) = some o) : a = some o := by
  rw [if_pos hc] at h; exact h
theorem zneg {α : Type} {c : Prop} {i : Decidable c} {a b : Option α} {o : α} (hc : ¬ c) (h : (@ite _ c i a b) = some o) : b = some o := by
  rw [if_neg hc] at h; exact h
def zcase {α β γ : Type} (o : α ⊕ β) (f : α → Option γ) (g : β → Option γ) : Option γ := match o with
  | .inl a => f a
  | .inr b => g b
theorem zcl_ {α β γ : Type} {o : α ⊕ β} {f : α → Option γ} {g : β → Option γ} {a : α} {r : γ} (e : o = .inl a) (h : zcase o f g = some r) : f a = some r := by subst e; exact h
theorem zcr_ {α β γ : Type} {o : α ⊕ β} {f : α → Option γ} {g : β → Option γ} {b : β} {r : γ} (e : o = .inr b) (h : zcase o f g = some r) : g b = some r := by subst e; exact h
def zloop {σ ε ρ : Type} (f : σ → Option (σ ⊕ (ε ⊕ ρ))) : Nat → σ → Option (ε ⊕ ρ)
  | 0, _ => none
  | n + 1, s => (f s).bind (fun o => zcase o (fun s' => zloop f n s') (fun e => some e))
theorem zloop_0 {σ ε ρ : Type} {f : σ → Option (σ ⊕ (ε ⊕ ρ))} {s : σ} {o : ε ⊕ ρ} (h : zloop f 0 s = some o) : False := by cases h
theorem zloop_s {σ ε ρ : Type} {f : σ → Option (σ ⊕ (ε ⊕ ρ))} {n : Nat} {s : σ} {o : ε ⊕ ρ} (h : zloop f (n + 1) s = some o) : ∃ o1, f s = some o1 ∧ (∀ s', o1 = .inl s' → zloop f n s' = some o) ∧ (∀ e, o1 = .inr e → o = e) := by
  obtain ⟨o1, h1, h2⟩ := zbd (show (f s).bind (fun o => zcase o (fun s' => zloop f n s') (fun e => some e)) = some o from h)
  refine ⟨o1, h1, fun s' e => zcl_ e h2, fun e' e => ?_⟩
  exact (Option.some.inj (zcr_ e h2)).symm
/-- how many turns a loop may have -/
def zF : Nat := 20000
theorem zinj {α : Type} {a b : α} (h : some a = some b) : b = a := (Option.some.inj h).symm
def zbo (x : Int32) : Bool := x == 0 || x == 1
theorem zbo_n {x : Int32} (h : zbo x = true) : narrow .boolean (.int x) = .int x := by
  unfold zbo at h
  simp only [Bool.or_eq_true, beq_iff_eq] at h
  rcases h with rfl | rfl <;> rfl
theorem zbo_f {x : Int32} (h : zbo x = true) : fits .boolean (.int x) = true := h
/-- a contract with one end -/
def zOC (E : zE) (y : MethodName) (cc : ByteArray) (nL : Nat) (ret : Option FieldType) (d : Nat) (As : List zV) (mm : zM) (ro : Option zV) (mo : zM) : Prop := zCT E y cc nL ret d As mm (fun r m2 => r = ro ∧ m2 = mo)
theorem zoki {x : Int32} : ∀ v, some (zI x) = some v → zok v := fun v h => by cases h; trivial
theorem zokj {x : Int64} : ∀ v, some (zJ x) = some v → zok v := fun v h => by cases h; trivial
theorem zokn : ∀ v, (none : Option zV) = some v → zok v := fun v h => by cases h
theorem zk_0 {E : zE} : ∀ v ∈ ([] : List zV), (zc E v).category = 1 := fun v h => by cases h
theorem zk_i {E : zE} {l : List zV} {x : Int32} (h : ∀ v ∈ l, (zc E v).category = 1) : ∀ v ∈ zI x :: l, (zc E v).category = 1 := List.forall_mem_cons.mpr ⟨rfl, h⟩
theorem zk_k {E : zE} {l : List zV} {k i : Nat} (h : ∀ v ∈ l, (zc E v).category = 1) : ∀ v ∈ zK k i :: l, (zc E v).category = 1 := List.forall_mem_cons.mpr ⟨rfl, h⟩
section ZO
variable {E : zE} {own : String} {cc : ByteArray} {nL : Nat} {ret : Option FieldType} {d : Nat} {Q : Option zV → zM → Prop} {pc : Nat} {L : List (Option zV)} {mm : zM}
theorem V_cV (pc' : Nat) (hp : pc + 3 = pc') {index n maxL kd i : Nat} {y : MethodName} {bytes : ByteArray} {ret2 : Option FieldType} (d2 : Nat) (As st : List zV) {stk stk2 : List zV} {ro : Option zV} {mo : zM} (hd : decode cc pc = .ok (.invokevirtual index, 3)) (cw : zCV own index y bytes maxL ret2 n kd)
    (hM : zOC E y bytes maxL ret2 d2 (zK kd i :: As) mm ro mo) (hdd : d2 + 1 ≤ d) (hstk : stk = As.reverse ++ zK kd i :: st) (hn : As.length = n) (h8 : (st.map (fun v => (zc E v).category)).sum ≤ 8) (ho : ∀ v, ro = some v → zok v) (hs2 : ro.toList ++ st = stk2)
    (kk : V E own cc nL ret d Q pc' L stk2 mo) : V E own cc nL ret d Q pc L stk mm := by
  subst hs2
  exact V_callV pc' hp hd cw hM hdd hstk hn h8 (fun r m2 q => by obtain ⟨rfl, rfl⟩ := q; exact kk) (fun r m2 q v hv => ho v (q.1 ▸ hv))
theorem V_cS (pc' : Nat) (hp : pc + 3 = pc') {index n maxL : Nat} {y : MethodName} {bytes : ByteArray} {ret2 : Option FieldType} (d2 : Nat) (As st : List zV) {stk stk2 : List zV} {ro : Option zV} {mo : zM} (hd : decode cc pc = .ok (.invokestatic index, 3)) (cw : zCS own index y bytes maxL ret2 n)
    (hM : zOC E y bytes maxL ret2 d2 As mm ro mo) (hdd : d2 + 1 ≤ d) (hstk : stk = As.reverse ++ st) (hn : As.length = n) (h8 : (st.map (fun v => (zc E v).category)).sum ≤ 8) (ho : ∀ v, ro = some v → zok v) (hs2 : ro.toList ++ st = stk2)
    (kk : V E own cc nL ret d Q pc' L stk2 mo) : V E own cc nL ret d Q pc L stk mm := by
  subst hs2
  exact V_callS pc' hp hd cw hM hdd hstk hn h8 (fun r m2 q => by obtain ⟨rfl, rfl⟩ := q; exact kk) (fun r m2 q v hv => ho v (q.1 ▸ hv))
theorem V_cN (pc' : Nat) (hp : pc + 3 = pc') {index maxL : Nat} {bytes : ByteArray} {ret2 : Option FieldType} (d2 : Nat) (As st : List zV) {stk stk2 : List zV} {ro : Option zV} {mo : zM} (hd : decode cc pc = .ok (.invokestatic index, 3)) (cw : zCN own index bytes maxL ret2)
    (hM : zOC E zyHB bytes maxL ret2 d2 As mm ro mo) (hdd : d2 + 1 ≤ d) (hstk : stk = As.reverse ++ st) (hn : As.length = 2) (h8 : (st.map (fun v => (zc E v).category)).sum ≤ 8) (ho : ∀ v, ro = some v → zok v) (hs2 : ro.toList ++ st = stk2)
    (kk : V E own cc nL ret d Q pc' L stk2 mo) : V E own cc nL ret d Q pc L stk mm := by
  subst hs2
  exact V_callSN pc' hp hd cw hM hdd hstk hn h8 (fun r m2 q => by obtain ⟨rfl, rfl⟩ := q; exact kk) (fun r m2 q v hv => ho v (q.1 ▸ hv))
end ZO
theorem zne {x c : Int32} (h : ¬ x = c) : x.toInt ≠ c.toInt := fun q => h (Int32.toInt_inj.mp q)
theorem zmem {i : Nat} {w : Cond} (h : lw_tbl[i]? = some w) (hg : goodWord w = true) : w ∈ zTB := List.mem_filter.mpr ⟨List.mem_of_getElem? h, hg⟩
