/-! V: contracts and calls -/
theorem zSF_moved {E : zE} {s U : State} {H : Heap} {locs : List Loc} (hF : zSF E s s.heap) (hS : va_S (zA E) s.heap H locs) (hW : s.WarmedH U.vm) (hU : U.heap = H) : zSF E U U.heap := by
  obtain ⟨h1, h2, h3, h6, h4, h5, h7, h8, h9⟩ := hF
  subst hU
  refine ⟨va_K.moved hW.alike h1, (vk_S.kept (vk_S.moved hW.alike h2) (fun a ha hn => hS.2.1 a ha hn)), fun q hq => (h3 q hq).warm hW, fun q hq => (h6 q hq).warmM hW, (va_X.moved hW.alike h4).kept (hS.2.1 _ (by omega) (by unfold zA; omega)), h5, Nat.le_trans h7 hS.1, (h8.moved hW.alike).kept (fun a ha hn => hS.2.1 a ha hn), ⟨(h9.1.moved hW.alike).kept (fun a ha hn => hS.2.1 a ha hn), h9.2⟩⟩
theorem zSF_same {E : zE} {u U : State} (hv : U.vm = u.vm) (hh : U.heap = u.heap) (hF : zSF E u u.heap) : zSF E U U.heap := by
  obtain ⟨h1, h2, h3, h6, h4, h5, h7, h8, h9⟩ := hF
  rw [hh]
  have ha : u.vm.Alike U.vm := by rw [hv]; exact Vm.Alike.refl u.vm
  exact ⟨va_K.moved ha h1, vk_S.moved ha h2, fun q hq => (h3 q hq).same hv, fun q hq => (h6 q hq).same rfl hv.symm, va_X.moved ha h4, h5, h7, h8.moved ha, h9.1.moved ha, h9.2⟩
theorem zPc_blind {E : zE} {As : List zV} {m : zM} : FrameBlind (zPc E As m) := by
  intro a U g mk h
  obtain ⟨h1, h2, h3, h4, h5⟩ := h
  exact ⟨h1, h2, h3, zSF_same (u := U) rfl rfl h4, h5⟩
/-- the locals at the entry -/
def zen (As : List zV) (nL : Nat) : List (Option zV) := As.map some ++ List.replicate (nL - As.length) none
theorem zargs_in {E : zE} : ∀ (As : List zV) (n i : Nat) (v : zV), (∀ v ∈ As, (zc E v).category = 1) → As[i]? = some v → (n + i, zc E v) ∈ lv_args n (As.map (zc E))
  | [], n, i, v, _, h => by simp at h
  | a :: l, n, 0, v, _, h => by
    rw [List.getElem?_cons_zero] at h
    cases h
    simp [lv_args]
  | a :: l, n, i + 1, v, hc, h => by
    rw [List.getElem?_cons_succ] at h
    have h1 := zargs_in l (n + 1) i v (fun w hw => hc w (List.mem_cons_of_mem _ hw)) h
    have h2 : ¬ (zc E a).category = 2 := by rw [hc a List.mem_cons_self]; decide
    rw [List.map_cons, lv_args, if_neg h2, show n + (i + 1) = n + 1 + i by omega]
    exact List.mem_cons_of_mem _ h1
theorem zsl_len {E : zE} : ∀ (As : List zV), (∀ v ∈ As, (zc E v).category = 1) → (lg_sl (As.map (zc E))).length = As.length
  | [], _ => rfl
  | a :: l, hc => by
    have h2 : ¬ (zc E a).category = 2 := by rw [hc a List.mem_cons_self]; decide
    have := zsl_len l (fun w hw => hc w (List.mem_cons_of_mem _ hw))
    rw [lg_sl] at this ⊢
    rw [List.map_cons, List.flatMap_cons, if_neg h2, List.length_append, this]
    simp; omega
theorem zCT_of {E : zE} {y : MethodName} {cc : ByteArray} {nL d : Nat} {ret : Option FieldType} {As : List zV} {mm : zM} {Q : Option zV → zM → Prop} {L : List (Option zV)} (hy : plainName y.cls = true) (hn : As.length ≤ nL) (hc : ∀ v ∈ As, (zc E v).category = 1) (hL : zen As nL = L)
    (h : V E y.cls cc nL ret d Q 0 L [] mm) : zCT E y cc nL ret d As mm Q := by
  subst hL
  refine Met.ofW (cc := cc) (maxL := nL) (ret := ret) hy rfl ?_
  intro p e s m args below meth c s₁ B hml hv
  obtain ⟨rfl, hpf, hok, hF, hP⟩ := hv
  have hts := atoms_spec (ws := Cond.code y cc nL ret :: zTB) B.pre
  have hown : s.vm.findClass y.cls = some m.cls := findClass_of_methodNamed B.named
  have hl := lv_entry (As.map (zc E)) (n := nL) (by rw [zsl_len As hc]; exact hn)
  rw [lg_entry_eq]
  generalize (lg_sl (As.map (zc E)) ++ List.replicate (nL - (lg_sl (As.map (zc E))).length) Slot.unset).toArray = ls at hl ⊢
  refine h p e s m _ below meth c s.heap [] ls ⟨B.exec, B.bytes, B.returns, hml, hown, fun w hw => hts w (List.mem_cons_of_mem _ hw), B.notSynchronized, hpf, hF⟩ va_S.rf hP ⟨hl.1, hl.2.1, by simp [zen]; omega, fun i v hi => ?_⟩ (fun v hv => by cases hv)
  have hi2 : As[i]? = some v := by
    unfold zen at hi
    by_cases hlt : i < As.length
    · rw [List.getElem?_append_left (by simpa using hlt)] at hi
      simpa using hi
    · rw [List.getElem?_append_right (by simpa using hlt)] at hi
      have h9 := List.mem_of_getElem? hi
      rw [List.mem_replicate] at h9
      cases h9.2
  refine ⟨?_, hok v (List.mem_of_getElem? hi2)⟩
  have := hl.2.2 _ (zargs_in As 0 i v hc hi2)
  simpa using this
/-- a callee: its code and what its call needs of the tables -/
def zCB (own : String) (index : Nat) (y : MethodName) (bytes : ByteArray) (maxL : Nat) (ret : Option FieldType) (n : Nat) : Prop :=
  Cond.code y bytes maxL ret ∈ zTB ∧ Cond.initialized y.cls ∈ zTB ∧ Cond.methodLink own index y ∈ zTB ∧ (y.cls ≠ "java/lang/invoke/MethodHandle" ∧ y.cls ≠ "java/lang/invoke/VarHandle" ∧ (parseMethodDescriptor y.desc).map (fun d => d.parameters.length) = some n) ∧ maxL ≤ 45
def zCV (own : String) (index : Nat) (y : MethodName) (bytes : ByteArray) (maxL : Nat) (ret : Option FieldType) (n kd : Nat) : Prop :=
  zCB own index y bytes maxL ret n ∧ Cond.instanceMethod y ∈ zTB ∧ Cond.selects y.cls y y ∈ zTB ∧ ∃ T N, vwCl[kd]? = some (y.cls, T, N)
def zCS (own : String) (index : Nat) (y : MethodName) (bytes : ByteArray) (maxL : Nat) (ret : Option FieldType) (n : Nat) : Prop :=
  zCB own index y bytes maxL ret n ∧ Cond.static y ∈ zTB
theorem zGI {y : MethodName} {bytes : ByteArray} {maxL : Nat} {ret : Option FieldType} (h : Cond.code y bytes maxL ret ∈ zTB) : GoodIn zTB (Cond.code y bytes maxL ret :: zTB) := fun w hw => by
  rcases List.mem_cons.mp hw with h1 | h1
  · rw [h1]; exact zTB_good _ h
  · exact zTB_good _ h1
section ZC
variable {E : zE} {own : String} {cc : ByteArray} {nL : Nat} {ret : Option FieldType} {d : Nat} {Q : Option zV → zM → Prop} {pc : Nat} {L : List (Option zV)} {st : List zV} {mm : zM}
theorem zcat_sum (E : zE) : ∀ st : List zV, ((st.map (zc E)).map fun v => v.category).sum = (st.map (fun v => (zc E v).category)).sum := fun st => by rw [List.map_map]; rfl
/-- goes on behind a call -/
theorem zrun {p : Program} {e : Env} {s : State} {m : MethodId} {args : Array Value} {below : List Frame} {meth : Method} {c : Code} {H : Heap} {locs : List Loc} {ls : Array Slot} {Q2 : Option zV → zM → Prop} {a : Array Value} {stk : List Value}
    (C : zCX E own cc nL ret p s m args meth c) (hS : va_S (zA E) s.heap H locs) (hL : zLH E ls nL L) (hst : ∀ v ∈ st, zok v)
    (hr : va_Run p (zl E) e (zrm d) s m args below meth c H locs 0 0 0 0 (F0 m pc ls stk) (st.map (zc E)) (zQC E Q2 a) (zA E))
    (kk : ∀ (r : Option zV) (m2 : zM), Q2 r m2 → V E own cc nL ret d Q (pc + 3) L (r.toList ++ st) m2) (hrok : ∀ r m2, Q2 r m2 → ∀ v, r = some v → zok v) : W p (zl E) e (zrm d) s m args below meth c H locs 0 0 (MQ below (zQC E Q) args s 0 0 (zA E)) (F0 m pc ls stk) := by
  intro T hT X
  obtain ⟨v, st0, t, T', L1, h0, X', hL1, e1, e2, ⟨⟨r, m2, hv, hq, hP2⟩, hz, hk⟩, stp⟩ := hr T hT X
  rw [h0] at hz hk
  cases hv
  have hS2 : va_S (zA E) s.heap T'.heap (locs ++ L1) := ⟨Nat.le_trans hS.1 (by rw [e1]; exact hz), fun q h1 h2 => by rw [e1, hk q (Nat.lt_of_lt_of_le h1 hS.1) h2]; exact hS.2.1 q h1 h2, fun q hq => by
      rcases List.mem_append.mp hq with h | h
      · exact hS.2.2 q h
      · exact hL1 q h⟩
  have hok : ∀ w ∈ r.toList ++ st, zok w := fun w hw => by
    rcases List.mem_append.mp hw with h | h
    · cases r with
      | none => simp at h
      | some v => simp at h; subst h; exact hrok _ _ hq _ rfl
    · exact hst w h
  obtain ⟨t2, a1, b1⟩ := kk r m2 hq p e s m args below meth c T'.heap (locs ++ L1) ls C hS2 (by rw [e1]; exact hP2) hL hok T' rfl X'
  refine ⟨t2, stp t2 ?_, b1⟩
  have es : (r.toList ++ st).map (zc E) = (r.map (zc E)).toList ++ st.map (zc E) := by cases r <;> simp
  rw [es] at a1
  exact a1
theorem V_callV (pc' : Nat) (hp : pc + 3 = pc') {index n maxL d2 kd i : Nat} {y : MethodName} {bytes : ByteArray} {ret2 : Option FieldType} {As stk : List zV} {Q2 : Option zV → zM → Prop} (hd : decode cc pc = .ok (.invokevirtual index, 3)) (cw : zCV own index y bytes maxL ret2 n kd)
    (hM : zCT E y bytes maxL ret2 d2 (zK kd i :: As) mm Q2) (hdd : d2 + 1 ≤ d) (hstk : stk = As.reverse ++ zK kd i :: st) (hn : As.length = n) (h8 : (st.map (fun v => (zc E v).category)).sum ≤ 8)
    (kk : ∀ (r : Option zV) (m2 : zM), Q2 r m2 → V E own cc nL ret d Q pc' L (r.toList ++ st) m2) (hrok : ∀ r m2, Q2 r m2 → ∀ v, r = some v → zok v) : V E own cc nL ret d Q pc L stk mm := by
  subst hp; subst hstk
  intro p e s m args below meth c H locs ls C hS hP hL hst
  obtain ⟨hx, hb, hr, hml, hown, hts, hlk, hpf, hF⟩ := id C
  obtain ⟨⟨w1, w2, w3, w4, w5⟩, w6, w7, T, N, w8⟩ := cw
  have hst1 : ∀ v ∈ st, zok v := fun v hv => hst v (List.mem_append_right _ (List.mem_cons_of_mem _ hv))
  have hst2 : ∀ v ∈ zK kd i :: As, zok v := fun v hv => by
    rcases List.mem_cons.mp hv with h | h
    · exact hst v (List.mem_append_right _ (by rw [h]; exact List.mem_cons_self))
    · exact hst v (List.mem_append_left _ (List.mem_reverse.mpr h))
  have hi : i < zcnt kd := hst2 _ List.mem_cons_self
  obtain ⟨cell, q1, q2, q3, q4⟩ := hP.1 kd i _ w8 hi
  refine zrun C hS hL hst1 (va_runV (As := As.map (zc E)) (rest := st.map (zc E)) (b := zad E kd i) (C := y.cls) (n := n) ⟨hx, hb, hml, hown, hts⟩ hM ⟨callB_of n hts (zGI w1) rfl rfl rfl (hts _ w2) (hts _ w3) w4 ⟨by show d2 + 1 ≤ d; exact hdd, by show 8 + (maxL + 11) + 64 * d2 ≤ 64 * d; omega⟩, hts _ w6, hts _ w7⟩ ⟨zPc_blind, ⟨cell, q1, by rw [q3]; rfl, by rw [q2]; exact (hF.1.1 kd _ w8).2.1⟩, fun U hU hW => ⟨rfl, hpf, hst2, zSF_moved hF hS hW hU, by rw [hU]; exact hP⟩⟩ rfl (by simpa using hn) hL.1 (by simp [zc]) (lv_room (by rw [zcat_sum]; exact h8)) hd ⟨Nat.le_refl _, Nat.le_refl _⟩) kk hrok
theorem V_callS (pc' : Nat) (hp : pc + 3 = pc') {index n maxL d2 : Nat} {y : MethodName} {bytes : ByteArray} {ret2 : Option FieldType} {As stk : List zV} {Q2 : Option zV → zM → Prop} (hd : decode cc pc = .ok (.invokestatic index, 3)) (cw : zCS own index y bytes maxL ret2 n)
    (hM : zCT E y bytes maxL ret2 d2 As mm Q2) (hdd : d2 + 1 ≤ d) (hstk : stk = As.reverse ++ st) (hn : As.length = n) (h8 : (st.map (fun v => (zc E v).category)).sum ≤ 8)
    (kk : ∀ (r : Option zV) (m2 : zM), Q2 r m2 → V E own cc nL ret d Q pc' L (r.toList ++ st) m2) (hrok : ∀ r m2, Q2 r m2 → ∀ v, r = some v → zok v) : V E own cc nL ret d Q pc L stk mm := by
  subst hp; subst hstk
  intro p e s m args below meth c H locs ls C hS hP hL hst
  obtain ⟨hx, hb, hr, hml, hown, hts, hlk, hpf, hF⟩ := id C
  obtain ⟨⟨w1, w2, w3, w4, w5⟩, w6⟩ := cw
  have hst1 : ∀ v ∈ st, zok v := fun v hv => hst v (List.mem_append_right _ hv)
  have hst2 : ∀ v ∈ As, zok v := fun v hv => hst v (List.mem_append_left _ (List.mem_reverse.mpr hv))
  refine zrun C hS hL hst1 (va_runS (As := As.map (zc E)) (rest := st.map (zc E)) (n := n) ⟨hx, hb, hml, hown, hts⟩ hM ⟨callB_of n hts (zGI w1) rfl rfl rfl (hts _ w2) (hts _ w3) w4 ⟨by show d2 + 1 ≤ d; exact hdd, by show 8 + (maxL + 11) + 64 * d2 ≤ 64 * d; omega⟩, hts _ w6⟩ ⟨zPc_blind, fun U hU hW => ⟨rfl, hpf, hst2, zSF_moved hF hS hW hU, by rw [hU]; exact hP⟩⟩ rfl (by simpa using hn) hL.1 (by simp) (lv_room (by rw [zcat_sum]; exact h8)) hd ⟨Nat.le_refl _, Nat.le_refl _⟩) kk hrok
/-- hasBit of a nest mate -/
def zCN (own : String) (index : Nat) (bytes : ByteArray) (maxL : Nat) (ret : Option FieldType) : Prop :=
  Cond.code zyHB bytes maxL ret ∈ zTB ∧ Cond.initialized "TraitLines" ∈ zTB ∧ (own, index) ∈ znest ∧ Cond.static zyHB ∈ zTB ∧ maxL ≤ 45
theorem V_callSN (pc' : Nat) (hp : pc + 3 = pc') {index maxL d2 : Nat} {bytes : ByteArray} {ret2 : Option FieldType} {As stk : List zV} {Q2 : Option zV → zM → Prop} (hd : decode cc pc = .ok (.invokestatic index, 3)) (cw : zCN own index bytes maxL ret2)
    (hM : zCT E zyHB bytes maxL ret2 d2 As mm Q2) (hdd : d2 + 1 ≤ d) (hstk : stk = As.reverse ++ st) (hn : As.length = 2) (h8 : (st.map (fun v => (zc E v).category)).sum ≤ 8)
    (kk : ∀ (r : Option zV) (m2 : zM), Q2 r m2 → V E own cc nL ret d Q pc' L (r.toList ++ st) m2) (hrok : ∀ r m2, Q2 r m2 → ∀ v, r = some v → zok v) : V E own cc nL ret d Q pc L stk mm := by
  subst hp; subst hstk
  intro p e s m args below meth c H locs ls C hS hP hL hst
  obtain ⟨hx, hb, hr, hml, hown, hts, hlk, hpf, hF⟩ := id C
  obtain ⟨w1, w2, w3, w6, w5⟩ := cw
  have hst1 : ∀ v ∈ st, zok v := fun v hv => hst v (List.mem_append_right _ hv)
  have hst2 : ∀ v ∈ As, zok v := fun v hv => hst v (List.mem_append_left _ (List.mem_reverse.mpr hv))
  refine zrun C hS hL hst1 (va_runSN (As := As.map (zc E)) (rest := st.map (zc E)) (n := 2) (host := "TraitLines") ⟨hx, hb, hml, hown, hts⟩ hM ⟨va_cnB 2 hts (zGI w1) rfl rfl rfl (hF.2.2.2.1 _ w3) (hts _ w2) ⟨by decide, by decide, by decide +kernel⟩ ⟨by show d2 + 1 ≤ d; exact hdd, by show 8 + (maxL + 11) + 64 * d2 ≤ 64 * d; omega⟩, hts _ w6, trivial⟩ ⟨zPc_blind, fun U hU hW => ⟨rfl, hpf, hst2, zSF_moved hF hS hW hU, by rw [hU]; exact hP⟩⟩ rfl (by simpa using hn) hL.1 (by simp) (lv_room (by rw [zcat_sum]; exact h8)) hd ⟨Nat.le_refl _, Nat.le_refl _⟩) kk hrok
end ZC
