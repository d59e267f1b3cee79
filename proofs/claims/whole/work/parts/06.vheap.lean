/-! V: fields, arrays, returns -/
/-- the index is within -/
def zin (i : Int32) (n : Nat) : Bool := !(decide (i < 0) || decide (n ≤ i.toNatClampNeg))
abbrev zn (i : Int32) : Nat := i.toNatClampNeg
theorem zin_vp {i : Int32} {n : Nat} (h : zin i n = true) : ¬ (i < 0 ∨ n ≤ i.toNatClampNeg) := by
  simpa [zin] using h
theorem zin_lt {i : Int32} {n : Nat} (h : zin i n = true) : i.toNatClampNeg < n := Nat.not_le.mp fun q => zin_vp h (Or.inr q)
/-- field k of kind kd is what entry 'index' of own's pool says -/
def zFL (own : String) (index kd k : Nat) : Prop := ∃ (C : String) (T : u_T) (N : Nat), vwCl[kd]? = some (C, T, N) ∧ (∀ w ∈ u_ws C T N, w ∈ zTB) ∧ k < N ∧ (T k).1 = C ∧ Cond.fieldLink own index C (T k).2.1 (T k).2.2.1 ∈ zTB
def zFW (own : String) (index kd k : Nat) (ty : FieldType) : Prop := ∃ (C : String) (T : u_T) (N : Nat) (ty0 : Nat → FieldType), vwCl[kd]? = some (C, T, N) ∧ (∀ w ∈ u_ws C T N, w ∈ zTB) ∧ k < N ∧ (T k).1 = C ∧ Cond.fieldLink own index C (T k).2.1 (T k).2.2.1 ∈ zTB ∧ (∀ k, k < N → parseFieldDescriptor (T k).2.2.1 = some (ty0 k)) ∧ (∀ a, a < N → ∀ b, b < N → a ≠ b → (T a).2.1 ≠ (T b).2.1) ∧ (T k).2.2.2 = false ∧ parseFieldDescriptor (T k).2.2.1 = some ty
theorem vwCl_lt {kd : Nat} {q : vw_C} (h : vwCl[kd]? = some q) : kd < 11 := (List.getElem?_eq_some_iff.mp h).1
theorem zat_ge {kd t n : Nat} (h : zat kd = some (t, n)) : 11 ≤ kd ∧ kd < 54 := by
  by_cases h1 : kd < 54
  · refine ⟨?_, h1⟩
    by_cases h2 : 11 ≤ kd
    · exact h2
    · exfalso
      have : ∀ k : Fin 11, zat k.1 = none := by decide
      rw [this ⟨kd, by omega⟩] at h
      cases h
  · exfalso
    unfold zat at h
    split at h <;> first | omega | (simp at h)
theorem zli7 (i : Nat) (hi : i < 58) : ∀ k : Nat, zfk 7 k = 1 → zli 7 k i < zcnt (zlk 7 k)
  | 0, h => absurd h (by decide)
  | 1, h => absurd h (by decide)
  | 2, h => absurd h (by decide)
  | 3, _ => by show 2 * i < 116; omega
  | 4, _ => by show 2 * i + 1 < 116; omega
  | 5, _ => by show i < 58; exact hi
  | 6, _ => by show i < 58; exact hi
  | 7, _ => by show i < 58; exact hi
  | k + 8, _ => by show i < 58; exact hi
theorem zcnt_pos (k : Nat) : 0 < zcnt k := by
  unfold zcnt
  split <;> decide
theorem zli_ok {kd k i : Nat} (hkd : kd < 11) (h : zfk kd k = 1) (hi : i < zcnt kd) : zli kd k i < zcnt (zlk kd k) := by
  by_cases h7 : kd = 7
  · subst h7
    exact zli7 i hi k h
  · have e : zli kd k i = i := by unfold zli; split <;> first | rfl | omega
    rw [e]
    by_cases h5 : kd = 5
    · subst h5; exact hi
    · by_cases h8 : kd = 8
      · subst h8; exact hi
      · have hi0 : i = 0 := by
          have h9 : zcnt kd = 1 := by
            have : ∀ q : Fin 11, q.1 ≠ 5 → q.1 ≠ 7 → q.1 ≠ 8 → zcnt q.1 = 1 := by decide
            exact this ⟨kd, hkd⟩ h5 h7 h8
          omega
        rw [hi0]
        exact zcnt_pos _
theorem zri_ok {kd t n i j : Nat} (h : zat kd = some (t, n)) (ht : 4 ≤ t) (hi : i < zcnt kd) (hj : j < n) : zri kd i j < zcnt (zrk kd) := by
  obtain ⟨h1, h2⟩ := zat_ge h
  have key : ∀ q : Fin 54, ∀ p, zat q.1 = some p → 4 ≤ p.1 → (q.1 = 14 ∧ p.2 = 10) ∨ (q.1 = 16 ∧ p.2 = 12) ∨ (q.1 = 19 ∧ p.2 = 12) ∨ (q.1 = 23 ∧ p.2 = 5) ∨ (q.1 = 35 ∧ p.2 = 12) ∨ (q.1 = 37 ∧ p.2 = 2) := by
    have k2 : ∀ q : Fin 54, match zat q.1 with
        | none => True
        | some p => 4 ≤ p.1 → (q.1 = 14 ∧ p.2 = 10) ∨ (q.1 = 16 ∧ p.2 = 12) ∨ (q.1 = 19 ∧ p.2 = 12) ∨ (q.1 = 23 ∧ p.2 = 5) ∨ (q.1 = 35 ∧ p.2 = 12) ∨ (q.1 = 37 ∧ p.2 = 2) := by
      intro q
      match q with
      | ⟨q, hq⟩ =>
        cases hz : zat q with
        | none => trivial
        | some p =>
          intro h4
          unfold zat at hz
          split at hz <;> first | (cases hz; simp_all; done) | (cases hz; omega) | (cases hz)
    intro q p hq h4
    have := k2 q
    rw [hq] at this
    exact this h4
  rcases key ⟨kd, h2⟩ (t, n) h ht with ⟨e, e2⟩ | ⟨e, e2⟩ | ⟨e, e2⟩ | ⟨e, e2⟩ | ⟨e, e2⟩ | ⟨e, e2⟩ <;> simp only at e e2 <;> subst e <;> subst e2
  · show 48 + j < 58; omega
  · exact hj
  · exact hj
  · exact hj
  · have hi : i < 4 := hi
    show 12 * i + j < 58; omega
  · show 2 + j < 4; omega
section ZH
variable {E : zE} {own : String} {cc : ByteArray} {nL : Nat} {ret : Option FieldType} {d : Nat} {Q : Option zV → zM → Prop} {pc : Nat} {L : List (Option zV)} {st : List zV} {mm : zM}
theorem V_getg (pc' : Nat) (hp : pc + 3 = pc') {index kd k i : Nat} {u : zV} (hd : decode cc pc = .ok (.getfield index, 3)) (hF : zFL own index kd k) (hu : zc E u = zfv E mm kd i k) (hok : ∀ H : Heap, i < zcnt kd → kd < 11 → zHP E mm H → zok u) (kk : V E own cc nL ret d Q pc' L (u :: st) mm) : V E own cc nL ret d Q pc L (zK kd i :: st) mm := by
  subst hp
  intro p e s m args below meth c H locs ls C hS hP hL hst
  obtain ⟨hx, hb, hr, hml, hown, hts, hlk, hpf, hK, hrest⟩ := id C
  obtain ⟨Cn, T, N, hc, hin, hk, hC, hlink⟩ := hF
  have hi : i < zcnt kd := zst_h hst
  obtain ⟨cell, q1, q2, q3, q4⟩ := hP.1 kd i _ hc hi
  obtain ⟨hSl, hfc, kC, hkC, hkind⟩ := hK.1 kd _ hc
  obtain ⟨cf, kf, fi, f, hfi, hsl⟩ := hSl k hk
  have hfi2 := hfi
  dsimp only at hfi2
  rw [hC] at hfi2
  refine W.getf hx hb hown (hts _ hlink) hfi2 (u_facts hfc hkC (u_lays hts hin hk) hfi).1 q1 (by rw [q3]; exact fun h => by cases h) (v := zc E u) ?_ rfl rfl hd (kk p e s m args below meth c H locs ls C hS hP hL (zst_c (hok H hi (vwCl_lt hc) hP) (zst_t hst)))
  rw [hu, hsl]
  exact q4 k hk
theorem V_geti (pc' : Nat) (hp : pc + 3 = pc') {index kd k i : Nat} (hd : decode cc pc = .ok (.getfield index, 3)) (hF : zFL own index kd k) (h0 : zfk kd k = 0) (kk : V E own cc nL ret d Q pc' L (zI (gi mm kd i k) :: st) mm) : V E own cc nL ret d Q pc L (zK kd i :: st) mm :=
  V_getg pc' hp hd hF (u := zI (gi mm kd i k)) (by unfold zfv; rw [h0]; rfl) (fun _ _ _ _ => trivial) kk
theorem V_getr (pc' : Nat) (hp : pc + 3 = pc') {index kd k i : Nat} (k1 i1 : Nat) (hd : decode cc pc = .ok (.getfield index, 3)) (hF : zFL own index kd k) (h0 : zfk kd k = 1) (h1 : zlk kd k = k1) (h2 : zli kd k i = i1) (kk : V E own cc nL ret d Q pc' L (zK k1 i1 :: st) mm) : V E own cc nL ret d Q pc L (zK kd i :: st) mm := by
  subst h1; subst h2
  exact V_getg pc' hp hd hF (u := zK (zlk kd k) (zli kd k i)) (by unfold zfv; rw [h0]; rfl) (fun _ hi hk _ => zli_ok hk h0 hi) kk
theorem V_getm (pc' : Nat) (hp : pc + 3 = pc') {index kd k i : Nat} (k1 : Nat) {j : Nat} (hd : decode cc pc = .ok (.getfield index, 3)) (hF : zFL own index kd k) (h0 : zfk kd k = 2) (h1 : zlk kd k = k1) (h2 : gr mm kd k = some j) (kk : V E own cc nL ret d Q pc' L (zK k1 j :: st) mm) : V E own cc nL ret d Q pc L (zK kd i :: st) mm := by
  subst h1
  exact V_getg pc' hp hd hF (u := zK (zlk kd k) j) (by unfold zfv; rw [h0, h2]; rfl) (fun H _ _ hP => hP.2.2 kd k j h0 h2) kk
/-- a field is put -/
theorem zHP_put {m2 : zM} {kd i k : Nat} {Cn : String} {T : u_T} {N : Nat} {v : Value} {H H1 : Heap} {cell : Cell} {iS : Nat → Nat} (hpf : zPF E) (hP : zHP E mm H) (hc : vwCl[kd]? = some (Cn, T, N)) (hi : i < zcnt kd) (hiS : iS = (zDD E).2 kd)
    (q1 : H[zad E kd i]? = some cell) (q2 : cell.cls = (zDD E).1 kd) (q3 : cell.vm = .none) (q4 : ∀ k, k < N → cell.slots[iS k]? = some (zfv E mm kd i k)) (hap : ∀ x y, x < N → y < N → x ≠ y → iS x ≠ iS y) (hk : k < N)
    (e1 : H1[zad E kd i]? = some (cell.setSlot (iS k) v)) (e3 : ∀ q, q ≠ zad E kd i → H1[q]? = H[q]?)
    (hv : zfv E m2 kd i k = v) (ho : ∀ k' i' j, (k' ≠ kd ∨ i' ≠ i ∨ j ≠ k) → vwCl[k']? ≠ none → i' < zcnt k' → zfv E m2 k' i' j = zfv E mm k' i' j) (ha : ∀ t k' i' j, 11 ≤ k' → zav E m2 t k' i' j = zav E mm t k' i' j) (hm : ∀ k' k j, zfk k' k = 2 → gr m2 k' k = some j → j < zcnt (zlk k' k)) : zHP E m2 H1 := by
  have hkd := vwCl_lt hc
  refine ⟨fun k' i' q hq hi' => ?_, fun k' i' t n hq hi' => ?_, hm⟩
  · by_cases hh : k' = kd ∧ i' = i
    · obtain ⟨rfl, rfl⟩ := hh
      cases hc.symm.trans hq
      refine ⟨_, e1, q2, q3, fun j hj => ?_⟩
      rw [← hiS, t_set q4 hap hk v j hj]
      unfold updV
      by_cases hjk : j = k
      · subst hjk; rw [if_pos rfl, hv]
      · rw [if_neg hjk, ho k' i' j (Or.inr (Or.inr hjk)) (by rw [hq]; simp) hi']
    · have hne : zad E k' i' ≠ zad E kd i := fun z => hh (hpf.1 k' i' kd i (by have := vwCl_lt hq; omega) (by omega) hi' hi z)
      refine ((hP.1 k' i' q hq hi').kept (e3 _ hne)).to (fun j hj => ?_)
      rw [ho k' i' j (by by_cases z : k' = kd <;> simp_all) (by rw [hq]; simp) hi']
  · obtain ⟨g1, g2⟩ := zat_ge hq
    have hne : zad E k' i' ≠ zad E kd i := fun z => by have := (hpf.1 k' i' kd i g2 (by omega) hi' hi z).1; omega
    rw [e3 _ hne, hP.2.1 k' i' t n hq hi']
    congr 2
    funext j
    exact (ha t k' i' j g1).symm
theorem V_putg (pc' : Nat) (hp : pc + 3 = pc') {index kd k i : Nat} {u : zV} {m2 : zM} {ty : FieldType} (hd : decode cc pc = .ok (.putfield index, 3)) (hF : zFW own index kd k ty) (hn : narrow ty (zc E u) = zc E u) (hfit : fits ty (zc E u) = true)
    (hv : zfv E m2 kd i k = zc E u) (ho : ∀ k' i' j, (k' ≠ kd ∨ i' ≠ i ∨ j ≠ k) → vwCl[k']? ≠ none → i' < zcnt k' → i < zcnt kd → zfv E m2 k' i' j = zfv E mm k' i' j) (ha : ∀ t k' i' j, 11 ≤ k' → zav E m2 t k' i' j = zav E mm t k' i' j) (hm : ∀ H, zHP E mm H → zok u → ∀ k' k j, zfk k' k = 2 → gr m2 k' k = some j → j < zcnt (zlk k' k))
    (kk : V E own cc nL ret d Q pc' L st m2) : V E own cc nL ret d Q pc L (u :: zK kd i :: st) mm := by
  subst hp
  intro p e s m args below meth c H locs ls C hS hP hL hst
  obtain ⟨hx, hb, hr, hml, hown, hts, hlk, hpf, hK, hrest⟩ := id C
  obtain ⟨Cn, T, N, ty0, hc, hin, hk, hC, hlink, hty, hnm, hfin, hpd⟩ := hF
  have hi : i < zcnt kd := zst_h (zst_t hst)
  have hap := va_apart (own := own) hts hin ty0 hty hnm hK hc
  obtain ⟨cell, q1, q2, q3, q4⟩ := hP.1 kd i _ hc hi
  obtain ⟨hSl, hfc, kC, hkC, hkind⟩ := hK.1 kd _ hc
  obtain ⟨cf, kf, fi, f, hfi, hsl⟩ := hSl k hk
  have hlay := hts _ (hin _ (u_in_lay hk))
  unfold u_lay at hlay
  rw [if_neg (by rw [hfin]; decide)] at hlay
  have hst2 := (u_facts hfc hkC (u_lays hts hin hk) hfi).1
  have h6 := u_store hfc hkC hkind hlay hfi hpd hn hfit
  have hfi2 := hfi
  dsimp only at hfi2
  rw [hC] at hfi2
  refine W.putK hx hb (f := f) ⟨hown, hts _ hlink, ⟨_, _, _, hfi2⟩, hst2⟩ (by rw [q2]; exact h6) q1 q3 (by rw [hsl]; exact k2_hasslot (q4 k hk)) rfl rfl hd fun H1 e1 e2 e3 => ?_
  rw [hsl] at e1 ⊢
  have hkd := vwCl_lt hc
  exact kk p e s m args below meth c H1 _ ls C (hS.put e2 e3 (hpf.2 kd i (by omega) hi)) (zHP_put hpf hP hc hi rfl q1 q2 q3 q4 hap hk e1 e3 hv (fun k' i' j a b c => ho k' i' j a b c hi) ha (hm H hP (zst_h hst))) hL (zst_t (zst_t hst))
theorem V_puti (pc' : Nat) (hp : pc + 3 = pc') {index kd k i : Nat} {x : Int32} {ty : FieldType} (hd : decode cc pc = .ok (.putfield index, 3)) (hF : zFW own index kd k ty) (h0 : zfk kd k = 0) (hn : narrow ty (.int x) = .int x) (hfit : fits ty (.int x) = true)
    (kk : V E own cc nL ret d Q pc' L st (wi mm kd i k x)) : V E own cc nL ret d Q pc L (zI x :: zK kd i :: st) mm := by
  refine V_putg pc' hp (m2 := wi mm kd i k x) hd hF hn hfit ?_ ?_ ?_ (fun H hP _ k' k j a b => hP.2.2 k' k j a (by rw [gr_wi] at b; exact b)) kk
  · unfold zfv
    rw [h0]
    simp [gi_wi, zc]
  · intro k' i' j hne hh h1 h2
    unfold zfv
    rw [gi_wi, gr_wi]
    rw [if_neg (by rintro ⟨a, b, c⟩; rcases hne with z | z | z <;> exact z (by assumption))]
  · intro t k' i' j h11
    have : kd < 11 := by obtain ⟨C, T, N, ty0, hc, -⟩ := hF; exact vwCl_lt hc
    unfold zav
    rw [gi_wi, if_neg (by omega), gl_wi]
theorem V_putm (pc' : Nat) (hp : pc + 3 = pc') {index kd k i k1 j : Nat} {ty : FieldType} (hd : decode cc pc = .ok (.putfield index, 3)) (hF : zFW own index kd k ty) (h0 : zfk kd k = 2) (h1 : zlk kd k = k1) (hcn : zcnt kd = 1) (hn : ∀ a : Nat, narrow ty (.ref a) = .ref a) (hfit : ∀ a : Nat, fits ty (.ref a) = true)
    (kk : V E own cc nL ret d Q pc' L st (wr mm kd k (some j))) : V E own cc nL ret d Q pc L (zK k1 j :: zK kd i :: st) mm := by
  refine V_putg pc' hp (m2 := wr mm kd k (some j)) hd hF (hn _) (hfit _) ?_ ?_ ?_ ?_ kk
  · unfold zfv
    rw [h0]
    simp [gr_wr, zc, h1]
  · intro k' i' j' hne hh h2 h3
    unfold zfv
    rw [gi_wr, gr_wr]
    by_cases z : k' = kd ∧ j' = k
    · exfalso
      obtain ⟨rfl, rfl⟩ := z
      rcases hne with z | z | z
      · exact z rfl
      · omega
      · exact z rfl
    · rw [if_neg z]
  · intro t k' i' j' h11
    rfl
  · intro H hP hok k' k2 j2 a b
    rw [gr_wr] at b
    by_cases z : k' = kd ∧ k2 = k
    · rw [if_pos z] at b
      obtain ⟨rfl, rfl⟩ := z
      cases b
      rw [h1]
      exact hok
    · rw [if_neg z] at b
      exact hP.2.2 k' k2 j2 a b
end ZH
