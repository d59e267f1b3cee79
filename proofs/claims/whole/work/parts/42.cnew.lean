/-! C: new cells -/
section CN
variable {E : zE} {own : String} {cc : ByteArray} {nL d mc ms : Nat} {Q : zCm → Prop} {pc : Nat} {L : List (Option zV)} {st : List zV} {mm : zCm}
theorem cHP_push {cs : List zCl} {H H1 : Heap} {c : zCl} (hP : cHP E cs H) (h1 : va_at (zDD E) vwCl (zb E + cs.length, ce E c) H1) (z : H1.size = H.size + 1) (o1 : ∀ q, q < H.size → H1[q]? = H[q]?) : cHP E (cs ++ [c]) H1 := by
  refine ⟨by rw [z, hP.1, List.length_append]; simp; omega, ?_⟩
  rw [cwf_app]
  refine va_P.app (hP.2.kept (fun k x hx => o1 x.1 ((hP.2 k x hx).lt))) (fun k x hx => ?_)
  have hz : k < 1 := (List.getElem?_eq_some_iff.mp hx).1
  rw [show k = 0 by omega] at hx
  cases hx
  rw [Nat.zero_add]
  exact h1
theorem cS_push {s : State} {H H1 : Heap} {locs : List Loc} (hS : va_S (zA E) s.heap H locs) (z : H.size ≤ H1.size) (o1 : ∀ q, q < H.size → H1[q]? = H[q]?) : va_S (zA E) s.heap H1 locs :=
  ⟨Nat.le_trans hS.1 z, fun x h1 h2 => (o1 x (Nat.lt_of_lt_of_le h1 hS.1)).trans (hS.2.1 x h1 h2), hS.2.2⟩
/-- what 'new' needs -/
def zNW (own : String) (index ci N : Nat) : Prop := ∃ (C : String) (T : u_T) (ty : Nat → FieldType), vwCl[ci]? = some (C, T, N) ∧ (∀ w ∈ u_ws C T N, w ∈ zTB) ∧ (∀ k, k < N → parseFieldDescriptor (T k).2.2.1 = some (ty k)) ∧ Cond.classLink own index C ∈ zTB ∧ Cond.instantiable C N ∈ zTB ∧ Cond.initialized C ∈ zTB ∧ ∀ k, k < N → defaultValue (ty k) = if zfk ci k = 0 then .int 0 else .null
theorem C_new (pc' : Nat) (hp : pc + 3 = pc') {index ci N : Nat} {mm2 : zCm} (hd : decode cc pc = .ok (.new index, 3)) (hW : zNW own index ci N) (h : cnew mm mc ms ci N = some mm2) (kk : CV E own cc nL d mc ms Q pc' L (zK 0 mm.1.length :: st) mm2) : CV E own cc nL d mc ms Q pc L st mm := by
  subst hp
  intro p e s m args below meth c H locs ls C hS hP hL
  obtain ⟨hx, hb, hr, hml, hown, hts, hlk, hin0, had, hF0, hbs⟩ := id C
  obtain ⟨Cn, T, ty, hc, hin, hty, hcl, hinst, hini, hdf⟩ := hW
  obtain ⟨hb1, h⟩ := zobd h
  simp only [Bool.and_eq_true, decide_eq_true_eq] at hb1
  have e2 := zinj h
  subst e2
  have hKn := hF0.1.1 ci _ hc
  have hci := vwCl_lt hc
  refine W.newcK hx hb hown (hts _ hcl) (hts _ hinst) (hts _ hini) rfl hd hb1.1 hb1.2 hKn.2.1 rfl fun H1 kC hkC e1 z1 o1 => ?_
  have hat : va_at (zDD E) vwCl (zb E + mm.1.length, ce E (ci, (N, List.replicate N none))) H1 := by
    rw [ce_obj hci]
    refine ⟨_, hc, ?_⟩
    have h9 := u_born (o := H.size) ty hts hin hKn hkC e1 hty
    rw [hP.1] at h9
    refine h9.to (fun k hk => ?_)
    rw [hdf k hk]
    show _ = (cfl E ci N (List.replicate N none)).getD k .null
    rw [List.getD_eq_getElem?_getD, cfl_get E _ hk]
    have : (List.replicate N (none : Option Nat)).getD k none = none := by rw [List.getD_eq_getElem?_getD, List.getElem?_replicate]; split <;> rfl
    rw [this]
    rfl
  have k9 := kk p e s m args below meth c H1 locs ls C (cS_push hS (by omega) o1) (cHP_push hP hat z1 o1) hL
  show W _ _ _ _ _ _ _ _ _ _ _ _ _ _ _ (F0 m (pc + 3) ls (.ref H.size :: st.map (zc E)))
  rw [show H.size = zad E 0 mm.1.length by rw [had]; exact hP.1]
  exact k9
theorem carr_prim {t n : Nat} (ht : t < 4) : (vp_cell (zac E t) (carr E t n [])) = arrV (zac E t) n (fun _ => defaultValue (zty t)) := by
  match t, ht with
  | 0, _ => rfl
  | 1, _ => rfl
  | 2, _ => rfl
  | 3, _ => rfl
theorem zKname {U : State} (hK : va_K (zDD E) vwCl (ztys E) U) {t : Nat} (ht : t < 4) : U.vm.findClass ("[" ++ (zty t).toString) = some (zac E t) := by
  match t, ht with
  | 0, _ => exact (hK.2 0 _ rfl).2
  | 1, _ => exact (hK.2 1 _ rfl).2
  | 2, _ => exact (hK.2 2 _ rfl).2
  | 3, _ => exact (hK.2 3 _ rfl).2
theorem C_newa (pc' : Nat) (hp : pc + 2 = pc') {t n : Nat} {x : Int32} {atype : ArrayType} {mm2 : zCm} (hd : decode cc pc = .ok (.newarray atype, 2)) (ht : t < 4) (hty : newarray.typeOf atype = zty t) (hac : Cond.arrayClass (zty t) ∈ zTB) (hx0 : ¬ x < 0) (hxn : x.toNatClampNeg = n) (hn : n ≤ 20000) (h : cnar mm mc ms t n = some mm2) (kk : CV E own cc nL d mc ms Q pc' L (zK 0 mm.1.length :: st) mm2) : CV E own cc nL d mc ms Q pc L (zI x :: st) mm := by
  subst hp
  intro p e s m args below meth c H locs ls C hS hP hL
  obtain ⟨hx, hb, hr, hml, hown, hts, hlk, hin0, had, hF0, hbs⟩ := id C
  obtain ⟨hb1, h⟩ := zobd h
  simp only [Bool.and_eq_true, decide_eq_true_eq] at hb1
  have e2 := zinj h
  rw [if_neg (by omega)] at e2
  subst e2
  subst hxn
  have hcb : componentBytes (newarray.typeOf atype) ≤ 8 := by cases atype <;> decide
  refine W.newa hx hb (by rw [hty]; exact hts _ hac) rfl hd rfl hx0 (Nat.le_trans (Nat.mul_le_mul hn hcb) (by decide)) hb1.1 hb1.2 fun cA kA comp f1 f2 f3 => ?_
  have ecA : cA = zac E t := by
    rw [hty] at f1
    exact Option.some.inj (f1.symm.trans (zKname hF0.1 ht))
  subst ecA
  rw [hty, arrV_new]
  have o1 : ∀ q, q < H.size → (H.push (arrV (zac E t) x.toNatClampNeg (fun _ => defaultValue (zty t))))[q]? = H[q]? := fun q hq => by rw [Array.getElem?_push, if_neg (Nat.ne_of_lt hq)]
  have hat : va_at (zDD E) vwCl (zb E + mm.1.length, ce E (20 + t, (x.toNatClampNeg, []))) (H.push (arrV (zac E t) x.toNatClampNeg (fun _ => defaultValue (zty t)))) := by
    rw [ce_arr]
    show _ = some (vp_cell _ _)
    rw [carr_prim ht, ← hP.1]
    simp
  have k9 := kk p e s m args below meth c _ locs ls C (cS_push hS (by simp) o1) (cHP_push hP hat (by simp) o1) hL
  show W _ _ _ _ _ _ _ _ _ _ _ _ _ _ _ (F0 m (pc + 2) ls (.ref H.size :: st.map (zc E)))
  rw [show H.size = zad E 0 mm.1.length by rw [had]; exact hP.1]
  exact k9
theorem C_anew (pc' : Nat) (hp : pc + 3 = pc') {index t n : Nat} {x : Int32} {C0 : String} {mm2 : zCm} (hd : decode cc pc = .ok (.anewarray index, 3)) (ht : (t = 4 ∧ C0 = "TraitLines$Unit") ∨ (t = 5 ∧ C0 = "TraitLines$World")) (hcl : Cond.classLink own index C0 ∈ zTB) (hx0 : ¬ x < 0) (hxn : x.toNatClampNeg = n) (hn : n ≤ 100) (h : cnar mm mc ms t n = some mm2) (kk : CV E own cc nL d mc ms Q pc' L (zK 0 mm.1.length :: st) mm2) : CV E own cc nL d mc ms Q pc L (zI x :: st) mm := by
  subst hp
  intro p e s m args below meth c H locs ls C hS hP hL
  obtain ⟨hx, hb, hr, hml, hown, hts, hlk, hin0, had, hF0, hbs⟩ := id C
  obtain ⟨hb1, h⟩ := zobd h
  simp only [Bool.and_eq_true, decide_eq_true_eq] at hb1
  have h4 : 4 ≤ t := by rcases ht with ⟨h, -⟩ | ⟨h, -⟩ <;> omega
  have e2 := zinj h
  rw [if_pos h4] at e2
  subst e2
  subst hxn
  have hao : va_AO C0 s := by
    rcases ht with ⟨-, rfl⟩ | ⟨-, rfl⟩
    · exact hF0.2.2.1
    · exact hF0.2.2.2.1
  refine W.anew hx hb hown (hts _ hcl) hao.use rfl hd rfl hx0 (Nat.le_trans (Nat.mul_le_mul_right 4 hn) (by decide)) hb1.1 hb1.2 fun cA kA comp f1 f2 f3 f4 => ?_
  have ecA : cA = zac E t := by
    rcases ht with ⟨rfl, rfl⟩ | ⟨rfl, rfl⟩
    · obtain ⟨_, _, _, _, _, g4⟩ := (hF0.1.2 4 _ rfl).2
      exact Option.some.inj (f1.symm.trans g4)
    · obtain ⟨_, _, _, _, _, g4⟩ := (hF0.1.2 5 _ rfl).2
      exact Option.some.inj (f1.symm.trans g4)
  subst ecA
  rw [arrV_new]
  have o1 : ∀ q, q < H.size → (H.push (arrV (zac E t) x.toNatClampNeg (fun _ => Value.null)))[q]? = H[q]? := fun q hq => by rw [Array.getElem?_push, if_neg (Nat.ne_of_lt hq)]
  have hat : va_at (zDD E) vwCl (zb E + mm.1.length, ce E (20 + t, (x.toNatClampNeg, List.replicate x.toNatClampNeg none))) (H.push (arrV (zac E t) x.toNatClampNeg (fun _ => Value.null))) := by
    rw [ce_arr]
    show _ = some (vp_cell _ _)
    unfold carr
    rw [if_neg (by omega), if_neg (by omega), vp_cell_q, ← hP.1]
    have : (fun j => va_rf (((List.replicate x.toNatClampNeg (none : Option Nat)).getD j none).map (fun k => zb E + k))) = fun _ => Value.null := by
      funext j
      have : (List.replicate x.toNatClampNeg (none : Option Nat)).getD j none = none := by rw [List.getD_eq_getElem?_getD, List.getElem?_replicate]; split <;> rfl
      rw [this]
      rfl
    rw [this]
    simp
  have k9 := kk p e s m args below meth c _ locs ls C (cS_push hS (by simp) o1) (cHP_push hP hat (by simp) o1) hL
  show W _ _ _ _ _ _ _ _ _ _ _ _ _ _ _ (F0 m (pc + 3) ls (.ref H.size :: st.map (zc E)))
  rw [show H.size = zad E 0 mm.1.length by rw [had]; exact hP.1]
  exact k9
theorem C_aast (pc' : Nat) (hp : pc + 1 = pc') {kd kv o v t ci : Nat} {j : Int32} {mm2 : zCm} (hd : decode cc pc = .ok (.aastore, 1)) (ht : (t = 4 ∧ ci = 7) ∨ (t = 5 ∧ ci = 8)) (h : cast_ mm o t ci v j = some mm2) (kk : CV E own cc nL d mc ms Q pc' L st mm2) : CV E own cc nL d mc ms Q pc L (zK kv v :: zI j :: zK kd o :: st) mm := by
  subst hp
  intro p e s m args below meth c H locs ls C hS hP hL
  obtain ⟨hx, hb, hr, hml, hown, hts, hlk, hin0, had, hF0, hbs⟩ := id C
  obtain ⟨c1, g1, h⟩ := zbd h
  obtain ⟨c2, g2, h⟩ := zbd h
  obtain ⟨hb1, h⟩ := zobd h
  simp only [Bool.and_eq_true, beq_iff_eq] at hb1
  obtain ⟨b1, b2, b3, b4⟩ := hb1
  have e2 := zinj h
  subst e2
  obtain ⟨tg, n, refs⟩ := c1
  obtain ⟨tv, nv, rv⟩ := c2
  simp only at b1 b2 b3 b4
  subst b1; subst b3
  have h4 : 4 ≤ t := by rcases ht with ⟨h, -⟩ | ⟨h, -⟩ <;> omega
  have hci : tv < 11 := by rcases ht with ⟨-, h⟩ | ⟨-, h⟩ <;> omega
  have he1 : (cwf E 0 mm.1)[o]? = some (zb E + (0 + o), .inl (zac E t, (n, .inr (.inr (.inr (.inr (fun j => (refs.getD j none).map (fun k => zb E + k)))))))) := by
    rw [cwf_get, g1]; show some (_, ce E (20 + t, (n, refs))) = _; rw [ce_arr]; unfold carr; rw [if_neg (by omega), if_neg (by omega)]
  have he2 : (cwf E 0 mm.1)[v]? = some (zb E + (0 + v), .inr (tv, cfl E tv nv rv)) := by rw [cwf_get, g2]; show some (_, ce E (tv, (nv, rv))) = _; rw [ce_obj hci]
  show W _ _ _ _ _ _ _ _ _ _ _ _ _ _ _ (F0 m pc ls (.ref (zad E kv v) :: .int j :: .ref (zad E kd o) :: st.map (zc E)))
  rw [show zad E kd o = zb E + (0 + o) by rw [had, Nat.zero_add], show zad E kv v = zb E + (0 + v) by rw [had, Nat.zero_add]]
  have hK := hF0.1
  have hlt := zin_lt b4
  have h0 : ¬ j < 0 := fun q => zin_vp b4 (Or.inl q)
  obtain ⟨r', hr', cellV, w1, w2, w3, -⟩ := hP.2 v _ he2
  obtain ⟨r, hcr, kA, comp, k1, k2, k3⟩ : ∃ r, vwCl[tv]? = some r ∧ ∃ (kA : Class) (comp : ClassId), s.vm.classes[zac E t]? = some kA ∧ kA.kind = .array comp (.object r.1) ∧ s.vm.findClass r.1 = some comp := by
    rcases ht with ⟨rfl, rfl⟩ | ⟨rfl, rfl⟩
    · obtain ⟨kA, comp, k1, k2, k3, -⟩ := (hK.2 4 _ rfl).2
      exact ⟨_, rfl, kA, comp, k1, k2, k3⟩
    · obtain ⟨kA, comp, k1, k2, k3, -⟩ := (hK.2 5 _ rfl).2
      exact ⟨_, rfl, kA, comp, k1, k2, k3⟩
  have hcls := (hK.1 tv r hcr).2
  have hcomp : comp = (zDD E).1 tv := Option.some.inj (k3.symm.trans hcls.1)
  subst hcomp
  obtain ⟨kC, hkC, -⟩ := hcls.2
  refine W.aast hx hb (hP.2 o _ he1) (fun q h => by cases h) (fun h => by cases h) k1 k2 rfl hkC ⟨h0, by show _ < (arrV _ _ _).slots.size; rw [arrV_size]; exact hlt⟩ w1 (fun q h => by rw [w3] at h; cases h) (by rw [w2]; exact hkC) (by rw [w2]; exact va_assign hcls) rfl rfl hd fun H1 e1 e2 e3 => ?_
  refine kk p e s m args below meth c H1 _ ls C (hS.put e2 e3 (by show zb E ≤ _; omega)) ⟨by rw [e2, hP.1, List.length_set], ?_⟩ hL
  have h9 := hP.2.set (cwf_D E mm.1) he1 (e := ce E (20 + t, (n, refs.set (zn j) (some v)))) ?_ e3
  · rw [cwf_set] at h9
    exact h9
  · rw [ce_arr]
    show H1[zb E + (0 + o)]? = some (vp_cell _ _)
    rw [e1]
    unfold carr
    rw [if_neg (by omega), if_neg (by omega), vp_cell_q, vp_cell_q, arrV_store]
    congr 2
    funext q
    unfold updV
    by_cases hq : q = j.toNatClampNeg
    · rw [if_pos hq]
      have : (refs.set (zn j) (some v)).getD q none = some v := by rw [hq, List.getD_eq_getElem?_getD, List.getElem?_set_self (by show j.toNatClampNeg < _; omega)]; rfl
      rw [this]
      show Value.ref (zb E + (0 + v)) = Value.ref (zb E + v)
      rw [Nat.zero_add]
    · rw [if_neg hq]
      have : (refs.set (zn j) (some v)).getD q none = refs.getD q none := by rw [List.getD_eq_getElem?_getD, List.getD_eq_getElem?_getD, List.getElem?_set_ne (Ne.symm hq)]
      rw [this]
end CN
