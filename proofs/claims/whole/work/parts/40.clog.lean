/-! C: the constructors: own cells in the order in which they are made; a cell: (class, or 20 + array kind; how long; its references) -/
abbrev zCl : Type := Nat × (Nat × List (Option Nat))
/-- the cells, and how many cells and slots the method has made -/
abbrev zCm : Type := List zCl × (Nat × Nat)
def cvr (E : zE) (o : Option Nat) : Value := match o with
  | some k => .ref (zb E + k)
  | none => .null
def cfl (E : zE) (ci N : Nat) (refs : List (Option Nat)) : List Value := (List.range N).map (fun j => if zfk ci j = 0 then .int 0 else cvr E (refs.getD j none))
def carr (E : zE) (t n : Nat) (refs : List (Option Nat)) : vp_A := if t < 3 then (n, .inl (fun _ => 0)) else if t = 3 then (n, .inr (.inl (fun _ => 0))) else (n, .inr (.inr (.inr (.inr (fun j => (refs.getD j none).map (fun k => zb E + k))))))
def ce (E : zE) (c : zCl) : va_E := if c.1 < 11 then .inr (c.1, cfl E c.1 c.2.1 c.2.2) else .inl (zac E (c.1 - 20), carr E (c.1 - 20) c.2.1 c.2.2)
def cwf (E : zE) : Nat → List zCl → va_W
  | _, [] => []
  | n, c :: l => (zb E + n, ce E c) :: cwf E (n + 1) l
theorem cwf_get (E : zE) : ∀ (cs : List zCl) (n k : Nat), (cwf E n cs)[k]? = (cs[k]?).map (fun c => (zb E + (n + k), ce E c))
  | [], n, k => by simp [cwf]
  | c :: l, n, 0 => by simp [cwf]
  | c :: l, n, k + 1 => by
    rw [cwf, List.getElem?_cons_succ, List.getElem?_cons_succ, cwf_get E l (n + 1) k, show n + 1 + k = n + (k + 1) by omega]
theorem cwf_set (E : zE) : ∀ (cs : List zCl) (n k : Nat) (c : zCl), (cwf E n cs).set k (zb E + (n + k), ce E c) = cwf E n (cs.set k c)
  | [], n, k, c => by simp [cwf]
  | a :: l, n, 0, c => by simp [cwf]
  | a :: l, n, k + 1, c => by
    have h := cwf_set E l (n + 1) k c
    rw [show n + 1 + k = n + (k + 1) by omega] at h
    rw [cwf, List.set_cons_succ, List.set_cons_succ, cwf, h]
theorem cwf_app (E : zE) : ∀ (cs : List zCl) (n : Nat) (l : List zCl), cwf E n (cs ++ l) = cwf E n cs ++ cwf E (n + cs.length) l
  | [], n, l => by simp [cwf]
  | c :: cs, n, l => by
    rw [List.cons_append, cwf, cwf, cwf_app E cs (n + 1) l, List.cons_append, List.length_cons, show n + 1 + cs.length = n + (cs.length + 1) by omega]
theorem cwf_D (E : zE) (cs : List zCl) : va_D (zA E) (cwf E 0 cs) := by
  refine ⟨fun i j p q hi hj hpq => ?_, fun k q hk => ?_⟩
  · rw [cwf_get] at hi hj
    cases h1 : cs[i]? with
    | none => rw [h1] at hi; cases hi
    | some a =>
      cases h2 : cs[j]? with
      | none => rw [h2] at hj; cases hj
      | some b =>
        rw [h1] at hi; rw [h2] at hj
        cases hi; cases hj
        have : zb E + (0 + i) = zb E + (0 + j) := hpq
        omega
  · rw [cwf_get] at hk
    cases h1 : cs[k]? with
    | none => rw [h1] at hk; cases hk
    | some a => rw [h1] at hk; cases hk; show zb E ≤ _; simp
def cHP (E : zE) (cs : List zCl) (H : Heap) : Prop := H.size = zb E + cs.length ∧ va_P (zDD E) vwCl (cwf E 0 cs) H
/-- links to constructors of nest mates -/
def cnest : List (String × (Nat × MethodName)) := [(RX8, (17, yX7_init)), (RX7, (11, yX5_init)), (RX9, (29, yX4_init)), (RX1, (21, yX7_init)), (RX9, (43, yX0_init)), (RX9, (50, yX2_init)), (RX9, (57, yX3_init)), (RX9, (64, yX6_init))]
def cSF (E : zE) (U : State) : Prop := va_K (zDD E) vwCl (ztys E) U ∧ (∀ q ∈ cnest, va_Nw (.methodLinkNest q.1 q.2.1 q.2.2 "TraitLines") U) ∧ va_AO "TraitLines$Unit" U ∧ va_AO "TraitLines$World" U ∧ (Cond.arrayOver (.array .int)).before #[] U = true
theorem cSF_moved {E : zE} {s U : State} (hF : cSF E s) (hW : s.WarmedH U.vm) : cSF E U := ⟨va_K.moved hW.alike hF.1, fun q hq => (hF.2.1 q hq).warmM hW, hF.2.2.1.moved hW.alike, hF.2.2.2.1.moved hW.alike, over_moved hW.alike hF.2.2.2.2⟩
theorem cSF_same {E : zE} {u U : State} (hv : U.vm = u.vm) (hF : cSF E u) : cSF E U := by
  have ha : u.vm.Alike U.vm := by rw [hv]; exact Vm.Alike.refl u.vm
  exact ⟨va_K.moved ha hF.1, fun q hq => (hF.2.1 q hq).same rfl hv.symm, hF.2.2.1.moved ha, hF.2.2.2.1.moved ha, over_moved ha hF.2.2.2.2⟩
def crm (d mc ms : Nat) : Room := { frames := d, cells := mc, slots := ms, locals := 64 * d }
def cQC (E : zE) (Q : zCm → Prop) : Array Value → State → Outcome → State → Prop := fun _ st oc t => (∃ m : zCm, oc = .returned none ∧ Q m ∧ cHP E m.1 t.heap) ∧ va_F (zA E) st t
def cAD (E : zE) : Prop := ∀ k i : Nat, zad E k i = zb E + i
def cPc (E : zE) (k : Nat) (cs : List zCl) : Array Value → State → Prop := fun a U => a = #[Value.ref (zb E + k)] ∧ cAD E ∧ cSF E U ∧ cHP E cs U.heap
def cCT (E : zE) (y : MethodName) (cc : ByteArray) (nL d mc ms k : Nat) (cs : List zCl) (Q : zCm → Prop) : Prop := Met (zl E) y (Cond.code y cc nL none :: zTB) (crm d mc ms) (cPc E k cs) (cQC E Q) mc ms (zA E)
theorem cPc_blind {E : zE} {k : Nat} {cs : List zCl} : FrameBlind (cPc E k cs) := fun _ U _ _ h => ⟨h.1, h.2.1, cSF_same (u := U) rfl h.2.2.1, h.2.2.2⟩
def cLH (E : zE) (ls : Array Slot) (nL : Nat) (L : List (Option zV)) : Prop := ls.size = nL ∧ lv_wf ls ∧ L.length = nL ∧ ∀ (i : Nat) (v : zV), L[i]? = some (some v) → ls[i]? = some (.val (zc E v))
def cCX (E : zE) (own : String) (cc : ByteArray) (nL : Nat) (p : Program) (s : State) (m : MethodId) (args : Array Value) (meth : Method) (c : Code) : Prop :=
  p.tables.exec = Jvm.exec ∧ c.code = cc ∧ meth.sig.returnType = none ∧ c.maxLocals = nL ∧ s.vm.findClass own = some m.cls ∧ (∀ w ∈ zTB, w.before args s = true) ∧ meth.locks = false ∧ meth.name = "<init>" ∧ cAD E ∧ cSF E s ∧ zb E ≤ s.heap.size
def CV (E : zE) (own : String) (cc : ByteArray) (nL d mc ms : Nat) (Q : zCm → Prop) (pc : Nat) (L : List (Option zV)) (st : List zV) (mm : zCm) : Prop :=
  ∀ (p : Program) (e : Env) (s : State) (m : MethodId) (args : Array Value) (below : List Frame) (meth : Method) (c : Code) (H : Heap) (locs : List Loc) (ls : Array Slot),
    cCX E own cc nL p s m args meth c → va_S (zA E) s.heap H locs → cHP E mm.1 H → cLH E ls nL L →
    W p (zl E) e (crm d mc ms) s m args below meth c H locs mm.2.1 mm.2.2 (MQ below (cQC E Q) args s mc ms (zA E)) (F0 m pc ls (st.map (zc E)))
theorem cLH_has {E : zE} {ls : Array Slot} {nL : Nat} {L : List (Option zV)} (h : cLH E ls nL L) : lv_has ls nL (zas E 0 L) := by
  refine ⟨h.1, h.2.1, fun q hq => ?_⟩
  obtain ⟨i, v, h1, h2⟩ := zas_of E L 0 q hq
  rw [h2, Nat.zero_add]
  exact h.2.2.2 i v h1
theorem cLH_of1 {E : zE} {ls ls' : Array Slot} {nL i : Nat} {L : List (Option zV)} {v : zV} (h : cLH E ls nL L) (h1 : lv_has ls' nL ((i, zc E v) :: (zas E 0 L).filter (fun q => !(q.1 == i) && !(q.1 + 1 == i && q.2.category == 2)))) : cLH E ls' nL (zst1 L i v) := by
  refine ⟨h1.1, h1.2.1, by rw [zst1_len]; exact h.2.2.1, fun j w hw => ?_⟩
  rcases zst1_get E L i v j w hw with ⟨rfl, rfl⟩ | ⟨h2, h3, h4⟩
  · exact h1.2.2 _ List.mem_cons_self
  · refine h1.2.2 (j, zc E w) (List.mem_cons_of_mem _ (List.mem_filter.mpr ⟨by simpa using zas_in E L 0 j w h3, ?_⟩))
    by_cases q : j + 1 = i
    · have q2 : ¬ (zc E w).category = 2 := fun z => h4 ⟨q, z⟩
      simp [h2, q2]
    · simp [h2, q]
section CR
variable {E : zE} {own : String} {cc : ByteArray} {nL d mc ms : Nat} {Q : zCm → Prop} {pc : Nat} {L : List (Option zV)} {st : List zV} {mm : zCm}
theorem C_iconst (pc' : Nat) (hp : pc + 1 = pc') {n : Int} {v : Int32} (hd : decode cc pc = .ok (.iconst n, 1)) (hv : Int32.ofInt n = v) (k : CV E own cc nL d mc ms Q pc' L (zI v :: st) mm) : CV E own cc nL d mc ms Q pc L st mm := by
  subst hp
  intro p e s m args below meth c H locs ls C hS hP hL
  exact lv_iconst C.1 C.2.1 hd hv (k p e s m args below meth c H locs ls C hS hP hL)
theorem C_bipush (pc' : Nat) (hp : pc + 2 = pc') {n : Int} {v : Int32} (hd : decode cc pc = .ok (.bipush n, 2)) (hv : (Int8.ofInt n).toInt32 = v) (k : CV E own cc nL d mc ms Q pc' L (zI v :: st) mm) : CV E own cc nL d mc ms Q pc L st mm := by
  subst hp
  intro p e s m args below meth c H locs ls C hS hP hL
  exact lv_bipush C.1 C.2.1 hd hv (k p e s m args below meth c H locs ls C hS hP hL)
theorem C_sipush (pc' : Nat) (hp : pc + 3 = pc') {n : Int} {v : Int32} (hd : decode cc pc = .ok (.sipush n, 3)) (hv : (Int16.ofInt n).toInt32 = v) (k : CV E own cc nL d mc ms Q pc' L (zI v :: st) mm) : CV E own cc nL d mc ms Q pc L st mm := by
  subst hp
  intro p e s m args below meth c H locs ls C hS hP hL
  exact lv_sipush C.1 C.2.1 hd hv (k p e s m args below meth c H locs ls C hS hP hL)
theorem C_iload_n (pc' : Nat) (hp : pc + 1 = pc') {n : Fin 4} (i : Nat) {x : Int32} (hd : decode cc pc = .ok (.iload_n n, 1)) (hi : (n : Nat) = i) (hx : L[i]? = some (some (zI x))) (k : CV E own cc nL d mc ms Q pc' L (zI x :: st) mm) : CV E own cc nL d mc ms Q pc L st mm := by
  subst hp
  intro p e s m args below meth c H locs ls C hS hP hL
  exact lv_iload_n C.1 C.2.1 hd hi (hL.2.2.2 i _ hx) (k p e s m args below meth c H locs ls C hS hP hL)
theorem C_aload_n (pc' : Nat) (hp : pc + 1 = pc') {n : Fin 4} (i : Nat) {kd j : Nat} (hd : decode cc pc = .ok (.aload_n n, 1)) (hi : (n : Nat) = i) (hx : L[i]? = some (some (zK kd j))) (k : CV E own cc nL d mc ms Q pc' L (zK kd j :: st) mm) : CV E own cc nL d mc ms Q pc L st mm := by
  subst hp
  intro p e s m args below meth c H locs ls C hS hP hL
  exact lv_aload_n C.1 C.2.1 hd hi (hL.2.2.2 i _ hx) (k p e s m args below meth c H locs ls C hS hP hL)
theorem C_istore_n (pc' : Nat) (hp : pc + 1 = pc') {n : Fin 4} (i : Nat) {x : Int32} {L' : List (Option zV)} (hd : decode cc pc = .ok (.istore_n n, 1)) (hi : (n : Nat) = i) (hn : i < nL) (hl : zst1 L i (zI x) = L') (k : CV E own cc nL d mc ms Q pc' L' st mm) : CV E own cc nL d mc ms Q pc L (zI x :: st) mm := by
  subst hp
  intro p e s m args below meth c H locs ls C hS hP hL
  subst hl
  exact lv_istore_n (lv := zas E 0 L) C.1 C.2.1 hd hi (cLH_has hL) hn rfl (fun ls' hl' => k p e s m args below meth c H locs ls' C hS hP (cLH_of1 (v := zI x) hL hl'))
theorem C_iinc (pc' : Nat) (hp : pc + 3 = pc') {i : Nat} {n : Int} {x : Int32} (v : Int32) {L' : List (Option zV)} (hd : decode cc pc = .ok (.iinc i n, 3)) (hx : L[i]? = some (some (zI x))) (hv : x + Int32.ofInt n = v) (hn : i < nL) (hl : zst1 L i (zI v) = L') (k : CV E own cc nL d mc ms Q pc' L' st mm) : CV E own cc nL d mc ms Q pc L st mm := by
  subst hp
  intro p e s m args below meth c H locs ls C hS hP hL
  subst hl
  obtain ⟨q9, h9⟩ := List.getElem?_of_mem (zas_in E L 0 i _ hx)
  rw [Nat.zero_add] at h9
  exact lv_iinc (lv := zas E 0 L) (v := v) C.1 C.2.1 hd (cLH_has hL) h9 hv hn rfl (fun ls' hl' => k p e s m args below meth c H locs ls' C hS hP (cLH_of1 (v := zI v) hL hl'))
theorem C_dup (pc' : Nat) (hp : pc + 1 = pc') {v : zV} (hd : decode cc pc = .ok (.dup, 1)) (hc : (zc E v).category = 1) (k : CV E own cc nL d mc ms Q pc' L (v :: v :: st) mm) : CV E own cc nL d mc ms Q pc L (v :: st) mm := by
  subst hp
  intro p e s m args below meth c H locs ls C hS hP hL
  exact lv_dup C.1 C.2.1 hd hc (k p e s m args below meth c H locs ls C hS hP hL)
theorem C_goto (tgt : Nat) {off : Int} (hd : decode cc pc = .ok (.goto off, 3)) (ht : (pc : Int) + off = (tgt : Int)) (k : CV E own cc nL d mc ms Q tgt L st mm) : CV E own cc nL d mc ms Q pc L st mm := by
  intro p e s m args below meth c H locs ls C hS hP hL
  exact lv_goto C.1 C.2.1 hd ht (k p e s m args below meth c H locs ls C hS hP hL)
theorem C_icmp_ge (pc' tgt : Nat) (hp : pc + 3 = pc') {x y : Int32} {off : Int} (hd : decode cc pc = .ok (.if_icmp .ge off, 3)) (ht : (pc : Int) + off = (tgt : Int)) (kt : y ≤ x → CV E own cc nL d mc ms Q tgt L st mm) (kf : ¬ y ≤ x → CV E own cc nL d mc ms Q pc' L st mm) : CV E own cc nL d mc ms Q pc L (zI y :: zI x :: st) mm := by
  subst hp
  intro p e s m args below meth c H locs ls C hS hP hL
  exact lv_icmp_ge C.1 C.2.1 hd ht (fun q => kt q p e s m args below meth c H locs ls C hS hP hL) (fun q => kf q p e s m args below meth c H locs ls C hS hP hL)
theorem C_w {L' : List (Option zV)} (h : zsub L' L) (k : CV E own cc nL d mc ms Q pc L' st mm) : CV E own cc nL d mc ms Q pc L st mm := by
  intro p e s m args below meth c H locs ls C hS hP hL
  exact k p e s m args below meth c H locs ls C hS hP ⟨hL.1, hL.2.1, h.2.trans hL.2.2.1, fun i v hi => hL.2.2.2 i v (h.1 i v hi)⟩
theorem C_obj (pc' : Nat) (hp : pc + 3 = pc') {index kd j : Nat} (hd : decode cc pc = .ok (.invokespecial index, 3)) (h1 : Cond.methodLink own index objectInit ∈ zTB) (h2 : Cond.instanceMethod objectInit ∈ zTB) (h3 : Cond.code objectInit ⟨#[0xb1]⟩ 1 none ∈ zTB) (hdd : 1 ≤ d) (h8 : (st.map (fun v => (zc E v).category)).sum ≤ 8) (k : CV E own cc nL d mc ms Q pc' L st mm) : CV E own cc nL d mc ms Q pc L (zK kd j :: st) mm := by
  subst hp
  intro p e s m args below meth c H locs ls C hS hP hL
  have hts := C.2.2.2.2.2.1
  refine W.objInit C.1 C.2.1 C.2.2.2.2.1 (hts _ h1) (hts _ h2) (hts _ h3) rfl (by rw [C.2.2.2.1]; exact hL.1) rfl hd hdd (by rw [zcat_sum]; show 2 * 0 + _ + 12 ≤ 64 * d; omega) ?_
  exact k p e s m args below meth c H locs ls C hS hP hL
theorem C_vret (hd : decode cc pc = .ok (.return_, 1)) (hq : Q mm) (hc : mm.2.1 ≤ mc ∧ mm.2.2 ≤ ms) : CV E own cc nL d mc ms Q pc L [] mm := by
  intro p e s m args below meth c H locs ls C hS hP hL
  refine W.widen (k := mc) (n := ms) hc.1 hc.2 ?_
  exact W.vret C.1 C.2.1 C.2.2.1 (fun t ht hW => ⟨⟨mm, rfl, hq, by rw [ht]; exact hP⟩, hS.F ht⟩) hS.2.2 hd C.2.2.2.2.2.2.1
end CR
