/-! C: fields, arrays, new cells, constructors called -/
def zFF (own : String) (index kd k : Nat) (ty : FieldType) : Prop := ∃ (T : u_T) (N : Nat) (ty0 : Nat → FieldType), vwCl[kd]? = some (own, T, N) ∧ (∀ w ∈ u_ws own T N, w ∈ zTB) ∧ k < N ∧ (T k).1 = own ∧ Cond.fieldLink own index own (T k).2.1 (T k).2.2.1 ∈ zTB ∧ (∀ k, k < N → parseFieldDescriptor (T k).2.2.1 = some (ty0 k)) ∧ (∀ a, a < N → ∀ b, b < N → a ≠ b → (T a).2.1 ≠ (T b).2.1) ∧ (T k).2.2.2 = true ∧ parseFieldDescriptor (T k).2.2.1 = some ty
def cput (mm : zCm) (o ci N k q : Nat) : Option zCm := (mm.1[o]?).bind (fun c => zob (c.1 == ci && (c.2.1 == N && c.2.2.length == N)) (some (mm.1.set o (ci, (N, c.2.2.set k (some q))), mm.2)))
def cget (mm : zCm) (o ci N k : Nat) : Option Nat := (mm.1[o]?).bind (fun c => zob (c.1 == ci && c.2.1 == N) (c.2.2.getD k none))
def cnew (mm : zCm) (mc ms ci N : Nat) : Option zCm := zob (decide (mm.2.1 + 1 ≤ mc) && decide (mm.2.2 + N ≤ ms)) (some (mm.1 ++ [(ci, (N, List.replicate N none))], (mm.2.1 + 1, mm.2.2 + N)))
def cnar (mm : zCm) (mc ms t n : Nat) : Option zCm := zob (decide (mm.2.1 + 1 ≤ mc) && decide (mm.2.2 + n ≤ ms)) (some (mm.1 ++ [(20 + t, (n, if 4 ≤ t then List.replicate n none else []))], (mm.2.1 + 1, mm.2.2 + n)))
def cast_ (mm : zCm) (o t ci v : Nat) (j : Int32) : Option zCm := (mm.1[o]?).bind (fun c => (mm.1[v]?).bind (fun cv => zob (c.1 == 20 + t && (c.2.2.length == c.2.1 && (cv.1 == ci && zin j c.2.1))) (some (mm.1.set o (20 + t, (c.2.1, c.2.2.set (zn j) (some v))), mm.2))))
theorem cfl_len (E : zE) (ci N : Nat) (refs : List (Option Nat)) : (cfl E ci N refs).length = N := by simp [cfl]
theorem cfl_get (E : zE) {ci N k : Nat} (refs : List (Option Nat)) (hk : k < N) : (cfl E ci N refs)[k]? = some (if zfk ci k = 0 then .int 0 else cvr E (refs.getD k none)) := by
  simp [cfl, hk]
theorem cfl_set (E : zE) {ci N k q : Nat} (refs : List (Option Nat)) (hk : k < N) (hr : refs.length = N) (hz : ¬ zfk ci k = 0) : (cfl E ci N refs).set k (.ref (zb E + q)) = cfl E ci N (refs.set k (some q)) := by
  apply List.ext_getElem?
  intro j
  by_cases hj : j < N
  · rw [cfl_get E _ hj]
    by_cases e : j = k
    · subst e
      rw [List.getElem?_set_self (by rw [cfl_len]; exact hj), if_neg hz]
      have : (refs.set j (some q)).getD j none = some q := by rw [List.getD_eq_getElem?_getD, List.getElem?_set_self (by omega)]; rfl
      rw [this]
      rfl
    · rw [List.getElem?_set_ne (Ne.symm e), cfl_get E _ hj]
      have : (refs.set k (some q)).getD j none = refs.getD j none := by rw [List.getD_eq_getElem?_getD, List.getD_eq_getElem?_getD, List.getElem?_set_ne (Ne.symm e)]
      rw [this]
  · rw [List.getElem?_eq_none (by rw [List.length_set, cfl_len]; omega), List.getElem?_eq_none (by rw [cfl_len]; omega)]
section CH
variable {E : zE} {own : String} {cc : ByteArray} {nL d mc ms : Nat} {Q : zCm → Prop} {pc : Nat} {L : List (Option zV)} {st : List zV} {mm : zCm}
theorem ce_obj {ci N : Nat} {refs : List (Option Nat)} (h : ci < 11) : ce E (ci, (N, refs)) = .inr (ci, cfl E ci N refs) := if_pos h
theorem ce_arr {t n : Nat} {refs : List (Option Nat)} : ce E (20 + t, (n, refs)) = .inl (zac E t, carr E t n refs) := by
  unfold ce
  rw [if_neg (by show ¬ 20 + t < 11; omega)]
  show Sum.inl (zac E (20 + t - 20), carr E (20 + t - 20) n refs) = _
  rw [show 20 + t - 20 = t by omega]
theorem cget_spec {o ci N k q : Nat} (h : cget mm o ci N k = some q) : ∃ refs, mm.1[o]? = some (ci, (N, refs)) ∧ refs.getD k none = some q := by
  obtain ⟨c, h1, h⟩ := zbd h
  obtain ⟨hb, h⟩ := zobd h
  simp only [Bool.and_eq_true, beq_iff_eq] at hb
  exact ⟨c.2.2, by rw [h1, ← hb.1, ← hb.2], h⟩
theorem C_getr (pc' : Nat) (hp : pc + 3 = pc') {index kd ci k o q : Nat} (hd : decode cc pc = .ok (.getfield index, 3)) (hF : zFL own index ci k) (N : Nat) (hN : ∃ C T, vwCl[ci]? = some (C, T, N)) (hz : ¬ zfk ci k = 0) (h : cget mm o ci N k = some q) (kk : CV E own cc nL d mc ms Q pc' L (zK 0 q :: st) mm) : CV E own cc nL d mc ms Q pc L (zK kd o :: st) mm := by
  subst hp
  intro p e s m args below meth c H locs ls C hS hP hL
  obtain ⟨hx, hb, hr, hml, hown, hts, hlk, hin0, had, hF0, -⟩ := id C
  obtain ⟨Cn, T, N', hc, hin, hk, hC, hlink⟩ := hF
  obtain ⟨C', T', hc'⟩ := hN
  have e9 := Option.some.inj (hc.symm.trans hc')
  have hNN : N' = N := congrArg (fun z : vw_C => z.2.2) e9
  subst hNN
  obtain ⟨refs, g1, g2⟩ := cget_spec h
  have hci := vwCl_lt hc
  have he : (cwf E 0 mm.1)[o]? = some (zb E + (0 + o), .inr (ci, cfl E ci N' refs)) := by rw [cwf_get, g1]; show some (_, ce E (ci, (N', refs))) = _; rw [ce_obj hci]
  show W _ _ _ _ _ _ _ _ _ _ _ _ _ _ _ (F0 m pc ls (.ref (zad E kd o) :: st.map (zc E)))
  rw [show zad E kd o = zb E + (0 + o) by rw [had, Nat.zero_add]]
  refine va_get (D := zDD E) (v := .ref (zad E 0 q)) (ref := Cn) (C := Cn) (T := T) (N := N') hx hb hts hin hown hF0.1 hP.2 o he hc k hk (hts _ hlink) (fun x hx => by rw [hC] at hx; exact hx) ?_ hd (kk p e s m args below meth c H locs ls C hS hP hL)
  rw [cfl_get E _ hk, if_neg hz, g2, had]
  rfl
theorem cput_spec {mm2 : zCm} {o ci N k q : Nat} (h : cput mm o ci N k q = some mm2) : ∃ refs, mm.1[o]? = some (ci, (N, refs)) ∧ refs.length = N ∧ mm2 = (mm.1.set o (ci, (N, refs.set k (some q))), mm.2) := by
  obtain ⟨c, h1, h⟩ := zbd h
  obtain ⟨hb, h⟩ := zobd h
  simp only [Bool.and_eq_true, beq_iff_eq] at hb
  exact ⟨c.2.2, by rw [h1, ← hb.1, ← hb.2.1], hb.2.2, zinj h⟩
/-- what a put leaves -/
theorem cHP_put {cs : List zCl} {o ci N k q : Nat} {refs : List (Option Nat)} {C : String} {T : u_T} {H H1 : Heap} {cell : Cell} (hP : cHP E cs H) (hc : vwCl[ci]? = some (C, T, N)) (g1 : cs[o]? = some (ci, (N, refs))) (g2 : refs.length = N) (hz : ¬ zfk ci k = 0) (hk : k < N)
    (q2 : cell.cls = (zDD E).1 ci) (q3 : cell.vm = .none) (q4 : ∀ k, k < N → cell.slots[(zDD E).2 ci k]? = some (vp_V (cfl E ci N refs) k)) (hap : ∀ x y, x < N → y < N → x ≠ y → (zDD E).2 ci x ≠ (zDD E).2 ci y)
    (e1 : H1[zb E + (0 + o)]? = some (cell.setSlot ((zDD E).2 ci k) (.ref (zb E + q)))) (e2 : H1.size = H.size) (e3 : ∀ x, x ≠ zb E + (0 + o) → H1[x]? = H[x]?) : cHP E (cs.set o (ci, (N, refs.set k (some q)))) H1 := by
  have hci := vwCl_lt hc
  refine ⟨by rw [e2, hP.1, List.length_set], ?_⟩
  have he : (cwf E 0 cs)[o]? = some (zb E + (0 + o), .inr (ci, cfl E ci N refs)) := by rw [cwf_get, g1]; show some (_, ce E (ci, (N, refs))) = _; rw [ce_obj hci]
  have h := hP.2.set (cwf_D E cs) he (e := .inr (ci, (cfl E ci N refs).set k (.ref (zb E + q)))) ⟨_, hc, t_OB.to (V := updV (vp_V (cfl E ci N refs)) k (.ref (zb E + q))) ⟨_, e1, q2, q3, t_set q4 hap hk _⟩ (fun j _ => vp_updV_set (by rw [cfl_len]; exact hk) _ j)⟩ e3
  rw [cfl_set E _ hk g2 hz, ← ce_obj (N := N) hci, cwf_set] at h
  exact h
theorem C_putF (pc' : Nat) (hp : pc + 3 = pc') {index kd kq ci k o q N : Nat} {ty : FieldType} {mm2 : zCm} (hd : decode cc pc = .ok (.putfield index, 3)) (hF : zFF own index ci k ty) (hN : ∃ C T, vwCl[ci]? = some (C, T, N)) (hz : ¬ zfk ci k = 0) (hn : ∀ a : Nat, narrow ty (.ref a) = .ref a) (hfit : ∀ a : Nat, fits ty (.ref a) = true) (h : cput mm o ci N k q = some mm2) (kk : CV E own cc nL d mc ms Q pc' L st mm2) : CV E own cc nL d mc ms Q pc L (zK kq q :: zK kd o :: st) mm := by
  subst hp
  intro p e s m args below meth c H locs ls C hS hP hL
  obtain ⟨hx, hb, hr, hml, hown, hts, hlk, hin0, had, hF0, hbs⟩ := id C
  obtain ⟨T, N', ty0, hc, hin, hk, hdecl, hlink, hty, hnm, hfin, hpd⟩ := hF
  obtain ⟨C', T', hc'⟩ := hN
  have e9 := Option.some.inj (hc.symm.trans hc')
  have hNN : N' = N := congrArg (fun z : vw_C => z.2.2) e9
  subst hNN
  obtain ⟨refs, g1, g2, rfl⟩ := cput_spec h
  have hci := vwCl_lt hc
  have hK := hF0.1
  have he : (cwf E 0 mm.1)[o]? = some (zb E + (0 + o), .inr (ci, cfl E ci N' refs)) := by rw [cwf_get, g1]; show some (_, ce E (ci, (N', refs))) = _; rw [ce_obj hci]
  show W _ _ _ _ _ _ _ _ _ _ _ _ _ _ _ (F0 m pc ls (.ref (zad E kq q) :: .ref (zad E kd o) :: st.map (zc E)))
  rw [show zad E kd o = zb E + (0 + o) by rw [had, Nat.zero_add], had kq q]
  have hap := va_apart (own := own) hts hin ty0 hty hnm hK hc
  obtain ⟨r, h1, cell, q1, q2, q3, q4⟩ := hP.2 o _ he
  have hr9 : r = (own, T, N') := Option.some.inj (h1.symm.trans hc)
  subst hr9
  obtain ⟨hSl, hfc, kC, hkC, hkind⟩ := hK.1 ci _ hc
  obtain ⟨cf, kf, fi, f, hfi, hsl⟩ := hSl k hk
  have hlay := hts _ (hin _ (u_in_lay hk))
  unfold u_lay at hlay
  rw [if_pos hfin] at hlay
  have hst2 := (u_facts hfc hkC (u_lays hts hin hk) hfi).1
  have hcf : m.cls = cf := by
    obtain ⟨_, _, c', _, _, _, -, -, hf', -, -, -, hown2, -⟩ := Cond.laysFinal_spec hlay
    have e1 : c' = cf := by have := hfi.symm.trans hf'; simp at this; exact this.1.symm
    rw [hdecl] at hown2
    rw [← e1]; exact Option.some.inj (hown.symm.trans hown2)
  have h6 := u_fits (v := .ref (zb E + q)) hfc hkC hkind (Or.inr hlay) hfi hpd (hn _) (hfit _)
  have hfi2 := hfi
  dsimp only at hfi2
  rw [hdecl] at hfi2
  refine W.putFinK hx hb hown (hts _ hlink) hfi2 hst2 hcf hin0 (by rw [q2]; exact h6) q1 q3 (by rw [hsl]; exact k2_hasslot (q4 k hk)) rfl rfl hd fun H1 e1 e2 e3 => ?_
  rw [hsl] at e1 ⊢
  exact kk p e s m args below meth c H1 _ ls C (hS.put e2 e3 (by show zb E ≤ _; omega)) (cHP_put hP hc g1 g2 hz hk q2 q3 q4 hap e1 e2 e3) hL
theorem C_put (pc' : Nat) (hp : pc + 3 = pc') {index kd kq ci k o q N : Nat} {ty : FieldType} {mm2 : zCm} (hd : decode cc pc = .ok (.putfield index, 3)) (hF : zFW own index ci k ty) (hN : ∃ C T, vwCl[ci]? = some (C, T, N)) (hz : ¬ zfk ci k = 0) (hn : ∀ a : Nat, narrow ty (.ref a) = .ref a) (hfit : ∀ a : Nat, fits ty (.ref a) = true) (h : cput mm o ci N k q = some mm2) (kk : CV E own cc nL d mc ms Q pc' L st mm2) : CV E own cc nL d mc ms Q pc L (zK kq q :: zK kd o :: st) mm := by
  subst hp
  intro p e s m args below meth c H locs ls C hS hP hL
  obtain ⟨hx, hb, hr, hml, hown, hts, hlk, hin0, had, hF0, hbs⟩ := id C
  obtain ⟨Cn, T, N', ty0, hc, hin, hk, hdecl, hlink, hty, hnm, hfin, hpd⟩ := hF
  obtain ⟨C', T', hc'⟩ := hN
  have e9 := Option.some.inj (hc.symm.trans hc')
  have hNN : N' = N := congrArg (fun z : vw_C => z.2.2) e9
  subst hNN
  obtain ⟨refs, g1, g2, rfl⟩ := cput_spec h
  have hci := vwCl_lt hc
  have hK := hF0.1
  have he : (cwf E 0 mm.1)[o]? = some (zb E + (0 + o), .inr (ci, cfl E ci N' refs)) := by rw [cwf_get, g1]; show some (_, ce E (ci, (N', refs))) = _; rw [ce_obj hci]
  show W _ _ _ _ _ _ _ _ _ _ _ _ _ _ _ (F0 m pc ls (.ref (zad E kq q) :: .ref (zad E kd o) :: st.map (zc E)))
  rw [show zad E kd o = zb E + (0 + o) by rw [had, Nat.zero_add], had kq q]
  have hap := va_apart (own := own) hts hin ty0 hty hnm hK hc
  obtain ⟨r, h1, cell, q1, q2, q3, q4⟩ := hP.2 o _ he
  have hr9 : r = (Cn, T, N') := Option.some.inj (h1.symm.trans hc)
  subst hr9
  obtain ⟨hSl, hfc, kC, hkC, hkind⟩ := hK.1 ci _ hc
  obtain ⟨cf, kf, fi, f, hfi, hsl⟩ := hSl k hk
  have hlay := hts _ (hin _ (u_in_lay hk))
  unfold u_lay at hlay
  rw [if_neg (by rw [hfin]; decide)] at hlay
  have hst2 := (u_facts hfc hkC (u_lays hts hin hk) hfi).1
  have h6 := u_store (v := .ref (zb E + q)) hfc hkC hkind hlay hfi hpd (hn _) (hfit _)
  have hfi2 := hfi
  dsimp only at hfi2
  rw [hdecl] at hfi2
  refine W.putK hx hb (f := f) ⟨hown, hts _ hlink, ⟨_, _, _, hfi2⟩, hst2⟩ (by rw [q2]; exact h6) q1 q3 (by rw [hsl]; exact k2_hasslot (q4 k hk)) rfl rfl hd fun H1 e1 e2 e3 => ?_
  rw [hsl] at e1 ⊢
  exact kk p e s m args below meth c H1 _ ls C (hS.put e2 e3 (by show zb E ≤ _; omega)) (cHP_put hP hc g1 g2 hz hk q2 q3 q4 hap e1 e2 e3) hL
end CH
