/-! C: contracts of constructors, and their calls -/
theorem cCT_of {E : zE} {y : MethodName} {cc : ByteArray} {nL d mc ms k : Nat} {cs : List zCl} {Q : zCm → Prop} {L : List (Option zV)} (hy : plainName y.cls = true) (hyn : y.name = "<init>") (hn : 1 ≤ nL) (hL : zen [zK 0 k] nL = L) (h : CV E y.cls cc nL d mc ms Q 0 L [] (cs, (0, 0))) : cCT E y cc nL d mc ms k cs Q := by
  subst hL
  refine Met.ofW (cc := cc) (maxL := nL) (ret := none) hy rfl ?_
  intro p e s m args below meth c s₁ B hml hv
  obtain ⟨rfl, had, hF, hP⟩ := hv
  have hts := atoms_spec (ws := Cond.code y cc nL none :: zTB) B.pre
  have hown : s.vm.findClass y.cls = some m.cls := findClass_of_methodNamed B.named
  have hin : meth.name = "<init>" := (name_of_methodNamed B.named B.method).1.trans hyn
  have hl := lv_entry ([.ref (zb E + k)]) (n := nL) hn
  show W _ _ _ _ _ _ _ _ _ _ _ _ _ _ _ (entryFrame m ([Value.ref (zb E + k)] : List Value).toArray nL)
  rw [lg_entry_eq]
  generalize (lg_sl ([.ref (zb E + k)]) ++ List.replicate (nL - (lg_sl ([.ref (zb E + k)])).length) Slot.unset).toArray = ls at hl ⊢
  have hl : lv_has ls nL [(0, .ref (zb E + k))] := hl
  refine h p e s m _ below meth c s.heap [] ls ⟨B.exec, B.bytes, B.returns, hml, hown, fun w hw => hts w (List.mem_cons_of_mem _ hw), B.notSynchronized, hin, had, hF, by rw [hP.1]; omega⟩ va_S.rf hP ⟨hl.1, hl.2.1, by simp [zen]; omega, fun i v hi => ?_⟩
  match i, hi with
  | 0, hi =>
    simp [zen] at hi
    subst hi
    have := lv_at hl 0 rfl
    rw [this]
    show _ = some (Slot.val (Value.ref (zad E 0 k)))
    rw [had]
  | i + 1, hi =>
    simp only [zen, List.map_cons, List.map_nil, List.cons_append, List.nil_append, List.getElem?_cons_succ] at hi
    have h9 := List.mem_of_getElem? hi
    rw [List.mem_replicate] at h9
    cases h9.2
/-- a call: the cells that come, by the callee's own count -/
def cadd (mm : zCm) (mc ms c2 s2 : Nat) (cs2 : List zCl) : Option zCm := zob (decide (mm.2.1 + c2 ≤ mc) && decide (mm.2.2 + s2 ≤ ms)) (some (cs2, (mm.2.1 + c2, mm.2.2 + s2)))
def zCI (own : String) (index : Nat) (y : MethodName) (bytes : ByteArray) (maxL : Nat) : Prop :=
  Cond.code y bytes maxL none ∈ zTB ∧ Cond.initialized y.cls ∈ zTB ∧ (Cond.methodLink own index y ∈ zTB ∨ (own, (index, y)) ∈ cnest) ∧ (y.cls ≠ "java/lang/invoke/MethodHandle" ∧ y.cls ≠ "java/lang/invoke/VarHandle" ∧ (parseMethodDescriptor y.desc).map (fun d => d.parameters.length) = some 0) ∧ Cond.instanceMethod y ∈ zTB ∧ y.name = "<init>" ∧ maxL ≤ 45
section CC
variable {E : zE} {own : String} {cc : ByteArray} {nL d mc ms : Nat} {Q : zCm → Prop} {pc : Nat} {L : List (Option zV)} {mm : zCm}
theorem C_ctor (pc' : Nat) (hp : pc + 3 = pc') {index maxL kd o c2 s2 : Nat} {y : MethodName} {bytes : ByteArray} (d2 : Nat) (st : List zV) {cs2 : List zCl} {mm2 : zCm} (hd : decode cc pc = .ok (.invokespecial index, 3)) (cw : zCI own index y bytes maxL) (hM : cCT E y bytes maxL d2 c2 s2 o mm.1 (fun m => m.1 = cs2)) (hdd : d2 + 1 ≤ d) (h8 : (st.map (fun v => (zc E v).category)).sum ≤ 8) (h : cadd mm mc ms c2 s2 cs2 = some mm2)
    (kk : CV E own cc nL d mc ms Q pc' L st mm2) : CV E own cc nL d mc ms Q pc L (zK kd o :: st) mm := by
  subst hp
  intro p e s m args below meth c H locs ls C hS hP hL
  obtain ⟨hx, hb, hr, hml, hown, hts, hlk, hin0, had, hF0, hbs⟩ := id C
  obtain ⟨hb1, h⟩ := zobd h
  simp only [Bool.and_eq_true, decide_eq_true_eq] at hb1
  have e9 := zinj h
  subst e9
  obtain ⟨w1, w2, w3, w4, w5, w6, w7⟩ := cw
  show W _ _ _ _ _ _ _ _ _ _ _ _ _ _ _ (F0 m pc ls (.ref (zad E kd o) :: st.map (zc E)))
  rw [had kd o]
  have hroom : 2 * (F0 m pc ls (.ref (zb E + o) :: st.map (zc E))).monitorRoom + ((st.map (zc E)).map fun v => v.category).sum ≤ 8 := lv_room (by rw [zcat_sum]; exact h8)
  have hpre : PreS s H (cPc E o mm.1) [.ref (zb E + o)] := ⟨cPc_blind, fun U hU hW => ⟨rfl, had, cSF_moved hF0 hW, by rw [hU]; exact hP⟩⟩
  have hrun : va_Run p (zl E) e (crm d mc ms) s m args below meth c H locs mm.2.1 mm.2.2 c2 s2 (F0 m pc ls (.ref (zb E + o) :: st.map (zc E))) (st.map (zc E)) (cQC E (fun m => m.1 = cs2) #[Value.ref (zb E + o)]) (zA E) := by
    rcases w3 with w3 | w3
    · exact va_runI (As := []) (rest := st.map (zc E)) (n := 0) ⟨hx, hb, hml, hown, hts⟩ hM ⟨callB_of 0 hts (zGI w1) rfl rfl rfl (hts _ w2) (hts _ w3) w4 ⟨by show d2 + 1 ≤ d; exact hdd, by show 8 + (maxL + 11) + 64 * d2 ≤ 64 * d; omega⟩, w6, hts _ w5⟩ hpre rfl rfl hL.1 rfl hroom hd hb1
    · exact va_runIN (As := []) (rest := st.map (zc E)) (n := 0) (host := "TraitLines") ⟨hx, hb, hml, hown, hts⟩ hM ⟨va_cnB 0 hts (zGI w1) rfl rfl rfl (hF0.2.1 _ w3) (hts _ w2) w4 ⟨by show d2 + 1 ≤ d; exact hdd, by show 8 + (maxL + 11) + 64 * d2 ≤ 64 * d; omega⟩, w6, hts _ w5⟩ hpre rfl rfl hL.1 rfl hroom hd hb1
  intro T hT X
  obtain ⟨v, st0, t, T', L1, h0, X', hL1, e1, e2, ⟨⟨m2, hv, hq, hP2⟩, hz, hk⟩, stp⟩ := hrun T hT X
  rw [h0] at hz hk
  cases hv
  have hS2 : va_S (zA E) s.heap T'.heap (locs ++ L1) := ⟨Nat.le_trans hS.1 (by rw [e1]; exact hz), fun q h1 h2 => by rw [e1, hk q (Nat.lt_of_lt_of_le h1 hS.1) h2]; exact hS.2.1 q h1 h2, fun q hq => by
      rcases List.mem_append.mp hq with h | h
      · exact hS.2.2 q h
      · exact hL1 q h⟩
  obtain ⟨t2, a1, b1⟩ := kk p e s m args below meth c T'.heap (locs ++ L1) ls C hS2 (by rw [e1, ← hq]; exact hP2) hL T' rfl X'
  exact ⟨t2, stp t2 a1, b1⟩
end CC
