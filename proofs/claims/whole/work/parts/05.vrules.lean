section ZR
variable {E : zE} {own : String} {cc : ByteArray} {nL : Nat} {ret : Option FieldType} {d : Nat} {Q : Option zV → zM → Prop} {pc : Nat} {L : List (Option zV)} {st : List zV} {mm : zM}
theorem zst_i {x : Int32} (h : ∀ v ∈ st, zok v) : ∀ v ∈ zI x :: st, zok v := List.forall_mem_cons.mpr ⟨trivial, h⟩
theorem zst_j {x : Int64} (h : ∀ v ∈ st, zok v) : ∀ v ∈ zJ x :: st, zok v := List.forall_mem_cons.mpr ⟨trivial, h⟩
theorem zst_d {x : UInt64} (h : ∀ v ∈ st, zok v) : ∀ v ∈ zD x :: st, zok v := List.forall_mem_cons.mpr ⟨trivial, h⟩
theorem zst_t {v : zV} (h : ∀ w ∈ v :: st, zok w) : ∀ w ∈ st, zok w := fun w hw => h w (List.mem_cons_of_mem _ hw)
theorem zst_h {v : zV} (h : ∀ w ∈ v :: st, zok w) : zok v := h v List.mem_cons_self
theorem zst_c {v : zV} (hv : zok v) (h : ∀ w ∈ st, zok w) : ∀ w ∈ v :: st, zok w := List.forall_mem_cons.mpr ⟨hv, h⟩
theorem V_iconst (pc' : Nat) (hp : pc + 1 = pc') {n : Int} {v : Int32} (hd : decode cc pc = .ok (.iconst n, 1)) (hv : Int32.ofInt n = v) (k : V E own cc nL ret d Q pc' L (zI v :: st) mm) : V E own cc nL ret d Q pc L st mm := by
  subst hp
  intro p e s m args below meth c H locs ls C hS hP hL hst
  exact lv_iconst C.1 C.2.1 hd hv (k p e s m args below meth c H locs ls C hS hP hL (zst_i hst))
theorem V_bipush (pc' : Nat) (hp : pc + 2 = pc') {n : Int} {v : Int32} (hd : decode cc pc = .ok (.bipush n, 2)) (hv : (Int8.ofInt n).toInt32 = v) (k : V E own cc nL ret d Q pc' L (zI v :: st) mm) : V E own cc nL ret d Q pc L st mm := by
  subst hp
  intro p e s m args below meth c H locs ls C hS hP hL hst
  exact lv_bipush C.1 C.2.1 hd hv (k p e s m args below meth c H locs ls C hS hP hL (zst_i hst))
theorem V_sipush (pc' : Nat) (hp : pc + 3 = pc') {n : Int} {v : Int32} (hd : decode cc pc = .ok (.sipush n, 3)) (hv : (Int16.ofInt n).toInt32 = v) (k : V E own cc nL ret d Q pc' L (zI v :: st) mm) : V E own cc nL ret d Q pc L st mm := by
  subst hp
  intro p e s m args below meth c H locs ls C hS hP hL hst
  exact lv_sipush C.1 C.2.1 hd hv (k p e s m args below meth c H locs ls C hS hP hL (zst_i hst))
theorem V_lconst (pc' : Nat) (hp : pc + 1 = pc') {n : Fin 2} {v : Int64} (hd : decode cc pc = .ok (.lconst n, 1)) (hv : Int64.ofNat (n : Nat) = v) (k : V E own cc nL ret d Q pc' L (zJ v :: st) mm) : V E own cc nL ret d Q pc L st mm := by
  subst hp
  intro p e s m args below meth c H locs ls C hS hP hL hst
  exact lv_lconst C.1 C.2.1 hd hv (k p e s m args below meth c H locs ls C hS hP hL (zst_j hst))
theorem V_ldc (pc' : Nat) (hp : pc + 2 = pc') {index : Nat} {v : Int32} (hd : decode cc pc = .ok (.ldc index, 2)) (hc : Jvm.Cond.constant own index v ∈ zTB) (k : V E own cc nL ret d Q pc' L (zI v :: st) mm) : V E own cc nL ret d Q pc L st mm := by
  subst hp
  intro p e s m args below meth c H locs ls C hS hP hL hst
  exact lv_ldc C.1 C.2.1 C.2.2.2.2.1 (C.2.2.2.2.2.1 _ hc) hd (k p e s m args below meth c H locs ls C hS hP hL (zst_i hst))
theorem V_ldcw (pc' : Nat) (hp : pc + 3 = pc') {index : Nat} {v : Int32} (hd : decode cc pc = .ok (.ldc_w index, 3)) (hc : Jvm.Cond.constant own index v ∈ zTB) (k : V E own cc nL ret d Q pc' L (zI v :: st) mm) : V E own cc nL ret d Q pc L st mm := by
  subst hp
  intro p e s m args below meth c H locs ls C hS hP hL hst
  exact lv_ldcw C.1 C.2.1 C.2.2.2.2.1 (C.2.2.2.2.2.1 _ hc) hd (k p e s m args below meth c H locs ls C hS hP hL (zst_i hst))
theorem V_ldc2 (pc' : Nat) (hp : pc + 3 = pc') {index : Nat} {v : Int64} (hd : decode cc pc = .ok (.ldc2_w index, 3)) (hc : Jvm.Cond.constantLong own index v ∈ zTB) (k : V E own cc nL ret d Q pc' L (zJ v :: st) mm) : V E own cc nL ret d Q pc L st mm := by
  subst hp
  intro p e s m args below meth c H locs ls C hS hP hL hst
  exact lv_ldc2 C.1 C.2.1 C.2.2.2.2.1 (C.2.2.2.2.2.1 _ hc) hd (k p e s m args below meth c H locs ls C hS hP hL (zst_j hst))
theorem V_ldc2d (pc' : Nat) (hp : pc + 3 = pc') {index : Nat} {v : UInt64} (hd : decode cc pc = .ok (.ldc2_w index, 3)) (hc : Jvm.Cond.constantDouble own index v ∈ zTB) (k : V E own cc nL ret d Q pc' L (zD v :: st) mm) : V E own cc nL ret d Q pc L st mm := by
  subst hp
  intro p e s m args below meth c H locs ls C hS hP hL hst
  exact lv_ldc2d C.1 C.2.1 C.2.2.2.2.1 (C.2.2.2.2.2.1 _ hc) hd (k p e s m args below meth c H locs ls C hS hP hL (zst_d hst))
theorem V_iload_n (pc' : Nat) (hp : pc + 1 = pc') {n : Fin 4} (i : Nat) {x : Int32} (hd : decode cc pc = .ok (.iload_n n, 1)) (hi : (n : Nat) = i) (hx : L[i]? = some (some (zI x))) (k : V E own cc nL ret d Q pc' L (zI x :: st) mm) : V E own cc nL ret d Q pc L st mm := by
  subst hp
  intro p e s m args below meth c H locs ls C hS hP hL hst
  exact lv_iload_n C.1 C.2.1 hd hi (hL.2.2.2 i _ hx).1 (k p e s m args below meth c H locs ls C hS hP hL (zst_i hst))
theorem V_iload (pc' : Nat) (hp : pc + 2 = pc') {i : Nat} {x : Int32} (hd : decode cc pc = .ok (.iload i, 2)) (hx : L[i]? = some (some (zI x))) (k : V E own cc nL ret d Q pc' L (zI x :: st) mm) : V E own cc nL ret d Q pc L st mm := by
  subst hp
  intro p e s m args below meth c H locs ls C hS hP hL hst
  exact lv_iload C.1 C.2.1 hd (hL.2.2.2 i _ hx).1 (k p e s m args below meth c H locs ls C hS hP hL (zst_i hst))
theorem V_lload_n (pc' : Nat) (hp : pc + 1 = pc') {n : Fin 4} (i : Nat) {x : Int64} (hd : decode cc pc = .ok (.lload_n n, 1)) (hi : (n : Nat) = i) (hx : L[i]? = some (some (zJ x))) (k : V E own cc nL ret d Q pc' L (zJ x :: st) mm) : V E own cc nL ret d Q pc L st mm := by
  subst hp
  intro p e s m args below meth c H locs ls C hS hP hL hst
  exact lv_lload_n C.1 C.2.1 hd hi (hL.2.2.2 i _ hx).1 (k p e s m args below meth c H locs ls C hS hP hL (zst_j hst))
theorem V_lload (pc' : Nat) (hp : pc + 2 = pc') {i : Nat} {x : Int64} (hd : decode cc pc = .ok (.lload i, 2)) (hx : L[i]? = some (some (zJ x))) (k : V E own cc nL ret d Q pc' L (zJ x :: st) mm) : V E own cc nL ret d Q pc L st mm := by
  subst hp
  intro p e s m args below meth c H locs ls C hS hP hL hst
  exact lv_lload C.1 C.2.1 hd (hL.2.2.2 i _ hx).1 (k p e s m args below meth c H locs ls C hS hP hL (zst_j hst))
theorem V_dload_n (pc' : Nat) (hp : pc + 1 = pc') {n : Fin 4} (i : Nat) {x : UInt64} (hd : decode cc pc = .ok (.dload_n n, 1)) (hi : (n : Nat) = i) (hx : L[i]? = some (some (zD x))) (k : V E own cc nL ret d Q pc' L (zD x :: st) mm) : V E own cc nL ret d Q pc L st mm := by
  subst hp
  intro p e s m args below meth c H locs ls C hS hP hL hst
  exact lv_dload_n C.1 C.2.1 hd hi (hL.2.2.2 i _ hx).1 (k p e s m args below meth c H locs ls C hS hP hL (zst_d hst))
theorem V_dload (pc' : Nat) (hp : pc + 2 = pc') {i : Nat} {x : UInt64} (hd : decode cc pc = .ok (.dload i, 2)) (hx : L[i]? = some (some (zD x))) (k : V E own cc nL ret d Q pc' L (zD x :: st) mm) : V E own cc nL ret d Q pc L st mm := by
  subst hp
  intro p e s m args below meth c H locs ls C hS hP hL hst
  exact lv_dload C.1 C.2.1 hd (hL.2.2.2 i _ hx).1 (k p e s m args below meth c H locs ls C hS hP hL (zst_d hst))
theorem V_aload_n (pc' : Nat) (hp : pc + 1 = pc') {n : Fin 4} (i : Nat) {kd j : Nat} (hd : decode cc pc = .ok (.aload_n n, 1)) (hi : (n : Nat) = i) (hx : L[i]? = some (some (zK kd j))) (k : V E own cc nL ret d Q pc' L (zK kd j :: st) mm) : V E own cc nL ret d Q pc L st mm := by
  subst hp
  intro p e s m args below meth c H locs ls C hS hP hL hst
  exact lv_aload_n C.1 C.2.1 hd hi (hL.2.2.2 i _ hx).1 (k p e s m args below meth c H locs ls C hS hP hL (zst_c (hL.2.2.2 i _ hx).2 hst))
theorem V_aload (pc' : Nat) (hp : pc + 2 = pc') {i : Nat} {kd j : Nat} (hd : decode cc pc = .ok (.aload i, 2)) (hx : L[i]? = some (some (zK kd j))) (k : V E own cc nL ret d Q pc' L (zK kd j :: st) mm) : V E own cc nL ret d Q pc L st mm := by
  subst hp
  intro p e s m args below meth c H locs ls C hS hP hL hst
  exact lv_aload C.1 C.2.1 hd (hL.2.2.2 i _ hx).1 (k p e s m args below meth c H locs ls C hS hP hL (zst_c (hL.2.2.2 i _ hx).2 hst))
def zcl (a : Option zV) : Option zV := match a with
  | some (.inr (.inl _)) => none
  | some (.inr (.inr (.inl _))) => none
  | a => a
def zst1 : List (Option zV) → Nat → zV → List (Option zV)
  | [], _, _ => []
  | _ :: l, 0, v => some v :: l
  | a :: l, 1, v => zcl a :: zst1 l 0 v
  | a :: l, n + 2, v => a :: zst1 l (n + 1) v
def ztl0 : List (Option zV) → List (Option zV)
  | [] => []
  | _ :: l => none :: l
def zst2 : List (Option zV) → Nat → zV → List (Option zV)
  | [], _, _ => []
  | _ :: l, 0, v => some v :: ztl0 l
  | a :: l, 1, v => zcl a :: zst2 l 0 v
  | a :: l, n + 2, v => a :: zst2 l (n + 1) v
theorem zst1_len : ∀ (L : List (Option zV)) (i : Nat) (v : zV), (zst1 L i v).length = L.length
  | [], i, v => by simp [zst1]
  | a :: l, 0, v => by simp [zst1]
  | a :: l, 1, v => by simp [zst1, zst1_len l 0 v]
  | a :: l, n + 2, v => by simp [zst1, zst1_len l (n + 1) v]
theorem ztl0_len (l : List (Option zV)) : (ztl0 l).length = l.length := by cases l <;> simp [ztl0]
theorem zst2_len : ∀ (L : List (Option zV)) (i : Nat) (v : zV), (zst2 L i v).length = L.length
  | [], i, v => by simp [zst2]
  | a :: l, 0, v => by simp [zst2, ztl0_len]
  | a :: l, 1, v => by simp [zst2, zst2_len l 0 v]
  | a :: l, n + 2, v => by simp [zst2, zst2_len l (n + 1) v]
theorem zcl_get {a : Option zV} {w : zV} (E : zE) (h : zcl a = some w) : a = some w ∧ ¬ (zc E w).category = 2 := by
  unfold zcl at h
  split at h
  · cases h
  · cases h
  · subst h
    refine ⟨rfl, ?_⟩
    rcases w with x | x | x | x
    · simp [zc, Value.category]
    · rename_i h1 h2; exact absurd rfl (h1 _)
    · rename_i h1 h2; exact absurd rfl (h2 _)
    · simp [zc, Value.category]
theorem zst1_get (E : zE) : ∀ (L : List (Option zV)) (i : Nat) (v : zV) (j : Nat) (w : zV), (zst1 L i v)[j]? = some (some w) → (j = i ∧ w = v) ∨ (j ≠ i ∧ L[j]? = some (some w) ∧ ¬ (j + 1 = i ∧ (zc E w).category = 2))
  | [], i, v, j, w, h => by simp [zst1] at h
  | a :: l, 0, v, j, w, h => by
    cases j with
    | zero => simp [zst1] at h; exact Or.inl ⟨rfl, h.symm⟩
    | succ j => rw [zst1, List.getElem?_cons_succ] at h; exact Or.inr ⟨by omega, by rw [List.getElem?_cons_succ]; exact h, by omega⟩
  | a :: l, 1, v, j, w, h => by
    cases j with
    | zero =>
      rw [zst1, List.getElem?_cons_zero] at h
      obtain ⟨h1, h2⟩ := zcl_get E (Option.some.inj h)
      exact Or.inr ⟨by omega, by rw [List.getElem?_cons_zero, h1], fun q => h2 q.2⟩
    | succ j =>
      rw [zst1, List.getElem?_cons_succ] at h
      rcases zst1_get E l 0 v j w h with ⟨h1, h2⟩ | ⟨h1, h2, h3⟩
      · exact Or.inl ⟨by omega, h2⟩
      · exact Or.inr ⟨by omega, by rw [List.getElem?_cons_succ]; exact h2, by omega⟩
  | a :: l, n + 2, v, j, w, h => by
    cases j with
    | zero => rw [zst1, List.getElem?_cons_zero] at h; exact Or.inr ⟨by omega, by rw [List.getElem?_cons_zero]; exact h, by omega⟩
    | succ j =>
      rw [zst1, List.getElem?_cons_succ] at h
      rcases zst1_get E l (n + 1) v j w h with ⟨h1, h2⟩ | ⟨h1, h2, h3⟩
      · exact Or.inl ⟨by omega, h2⟩
      · exact Or.inr ⟨by omega, by rw [List.getElem?_cons_succ]; exact h2, fun q => h3 ⟨by omega, q.2⟩⟩
theorem zst2_get (E : zE) : ∀ (L : List (Option zV)) (i : Nat) (v : zV) (j : Nat) (w : zV), (zst2 L i v)[j]? = some (some w) → (j = i ∧ w = v) ∨ (j ≠ i ∧ j ≠ i + 1 ∧ L[j]? = some (some w) ∧ ¬ (j + 1 = i ∧ (zc E w).category = 2))
  | [], i, v, j, w, h => by simp [zst2] at h
  | a :: l, 0, v, j, w, h => by
    cases j with
    | zero => simp [zst2] at h; exact Or.inl ⟨rfl, h.symm⟩
    | succ j =>
      rw [zst2, List.getElem?_cons_succ] at h
      cases l with
      | nil => simp [ztl0] at h
      | cons b l =>
        cases j with
        | zero => simp [ztl0] at h
        | succ j =>
          rw [ztl0, List.getElem?_cons_succ] at h
          exact Or.inr ⟨by omega, by omega, by rw [List.getElem?_cons_succ, List.getElem?_cons_succ]; exact h, by omega⟩
  | a :: l, 1, v, j, w, h => by
    cases j with
    | zero =>
      rw [zst2, List.getElem?_cons_zero] at h
      obtain ⟨h1, h2⟩ := zcl_get E (Option.some.inj h)
      exact Or.inr ⟨by omega, by omega, by rw [List.getElem?_cons_zero, h1], fun q => h2 q.2⟩
    | succ j =>
      rw [zst2, List.getElem?_cons_succ] at h
      rcases zst2_get E l 0 v j w h with ⟨h1, h2⟩ | ⟨h1, h4, h2, h3⟩
      · exact Or.inl ⟨by omega, h2⟩
      · exact Or.inr ⟨by omega, by omega, by rw [List.getElem?_cons_succ]; exact h2, by omega⟩
  | a :: l, n + 2, v, j, w, h => by
    cases j with
    | zero => rw [zst2, List.getElem?_cons_zero] at h; exact Or.inr ⟨by omega, by omega, by rw [List.getElem?_cons_zero]; exact h, by omega⟩
    | succ j =>
      rw [zst2, List.getElem?_cons_succ] at h
      rcases zst2_get E l (n + 1) v j w h with ⟨h1, h2⟩ | ⟨h1, h4, h2, h3⟩
      · exact Or.inl ⟨by omega, h2⟩
      · exact Or.inr ⟨by omega, by omega, by rw [List.getElem?_cons_succ]; exact h2, fun q => h3 ⟨by omega, q.2⟩⟩
def zas (E : zE) : Nat → List (Option zV) → List (Nat × Value)
  | _, [] => []
  | n, none :: l => zas E (n + 1) l
  | n, some v :: l => (n, zc E v) :: zas E (n + 1) l
theorem zas_in (E : zE) : ∀ (L : List (Option zV)) (n i : Nat) (v : zV), L[i]? = some (some v) → (n + i, zc E v) ∈ zas E n L
  | [], n, i, v, h => by simp at h
  | a :: l, n, 0, v, h => by
    rw [List.getElem?_cons_zero] at h
    rw [Option.some.inj h]
    simp [zas]
  | a :: l, n, i + 1, v, h => by
    rw [List.getElem?_cons_succ] at h
    have h1 := zas_in E l (n + 1) i v h
    rw [show n + 1 + i = n + (i + 1) by omega] at h1
    cases a <;> simp [zas, h1]
theorem zas_of (E : zE) : ∀ (L : List (Option zV)) (n : Nat) (q : Nat × Value), q ∈ zas E n L → ∃ i v, L[i]? = some (some v) ∧ q = (n + i, zc E v)
  | [], n, q, h => by simp [zas] at h
  | none :: l, n, q, h => by
    obtain ⟨i, v, h1, h2⟩ := zas_of E l (n + 1) q h
    exact ⟨i + 1, v, by rw [List.getElem?_cons_succ]; exact h1, by rw [h2, show n + 1 + i = n + (i + 1) by omega]⟩
  | some w :: l, n, q, h => by
    rcases List.mem_cons.mp h with h | h
    · exact ⟨0, w, rfl, h⟩
    · obtain ⟨i, v, h1, h2⟩ := zas_of E l (n + 1) q h
      exact ⟨i + 1, v, by rw [List.getElem?_cons_succ]; exact h1, by rw [h2, show n + 1 + i = n + (i + 1) by omega]⟩
theorem zLH_has {ls : Array Slot} (h : zLH E ls nL L) : lv_has ls nL (zas E 0 L) := by
  refine ⟨h.1, h.2.1, fun q hq => ?_⟩
  obtain ⟨i, v, h1, h2⟩ := zas_of E L 0 q hq
  rw [h2, Nat.zero_add]
  exact (h.2.2.2 i v h1).1
theorem zLH_of1 {ls ls' : Array Slot} {i : Nat} {v : zV} (h : zLH E ls nL L) (hv : zok v) (h1 : lv_has ls' nL ((i, zc E v) :: (zas E 0 L).filter (fun q => !(q.1 == i) && !(q.1 + 1 == i && q.2.category == 2)))) : zLH E ls' nL (zst1 L i v) := by
  refine ⟨h1.1, h1.2.1, by rw [zst1_len]; exact h.2.2.1, fun j w hw => ?_⟩
  rcases zst1_get E L i v j w hw with ⟨rfl, rfl⟩ | ⟨h2, h3, h4⟩
  · exact ⟨h1.2.2 _ List.mem_cons_self, hv⟩
  · refine ⟨h1.2.2 (j, zc E w) (List.mem_cons_of_mem _ (List.mem_filter.mpr ⟨by simpa using zas_in E L 0 j w h3, ?_⟩)), (h.2.2.2 j w h3).2⟩
    by_cases q : j + 1 = i
    · have q2 : ¬ (zc E w).category = 2 := fun z => h4 ⟨q, z⟩
      simp [h2, q2]
    · simp [h2, q]
theorem zLH_of2 {ls ls' : Array Slot} {i : Nat} {v : zV} (h : zLH E ls nL L) (hv : zok v) (h1 : lv_has ls' nL ((i, zc E v) :: (zas E 0 L).filter (fun q => !(q.1 == i) && (!(q.1 == i + 1) && !(q.1 + 1 == i && q.2.category == 2))))) : zLH E ls' nL (zst2 L i v) := by
  refine ⟨h1.1, h1.2.1, by rw [zst2_len]; exact h.2.2.1, fun j w hw => ?_⟩
  rcases zst2_get E L i v j w hw with ⟨rfl, rfl⟩ | ⟨h2, h5, h3, h4⟩
  · exact ⟨h1.2.2 _ List.mem_cons_self, hv⟩
  · refine ⟨h1.2.2 (j, zc E w) (List.mem_cons_of_mem _ (List.mem_filter.mpr ⟨by simpa using zas_in E L 0 j w h3, ?_⟩)), (h.2.2.2 j w h3).2⟩
    by_cases q : j + 1 = i
    · have q2 : ¬ (zc E w).category = 2 := fun z => h4 ⟨q, z⟩
      simp [h2, h5, q2]
    · simp [h2, h5, q]
theorem V_istore_n (pc' : Nat) (hp : pc + 1 = pc') {n : Fin 4} (i : Nat) {x : Int32} {L' : List (Option zV)} (hd : decode cc pc = .ok (.istore_n n, 1)) (hi : (n : Nat) = i) (hn : i < nL) (hl : zst1 L i (zI x) = L') (k : V E own cc nL ret d Q pc' L' st mm) : V E own cc nL ret d Q pc L (zI x :: st) mm := by
  subst hp
  intro p e s m args below meth c H locs ls C hS hP hL hst
  subst hl
  exact lv_istore_n (lv := zas E 0 L) C.1 C.2.1 hd hi (zLH_has hL) hn rfl (fun ls' hl' => k p e s m args below meth c H locs ls' C hS hP (zLH_of1 (v := zI x) hL (zst_h hst) hl') (zst_t hst))
theorem V_istore (pc' : Nat) (hp : pc + 2 = pc') {i : Nat} {x : Int32} {L' : List (Option zV)} (hd : decode cc pc = .ok (.istore i, 2)) (hn : i < nL) (hl : zst1 L i (zI x) = L') (k : V E own cc nL ret d Q pc' L' st mm) : V E own cc nL ret d Q pc L (zI x :: st) mm := by
  subst hp
  intro p e s m args below meth c H locs ls C hS hP hL hst
  subst hl
  exact lv_istore (lv := zas E 0 L) C.1 C.2.1 hd (zLH_has hL) hn rfl (fun ls' hl' => k p e s m args below meth c H locs ls' C hS hP (zLH_of1 (v := zI x) hL (zst_h hst) hl') (zst_t hst))
theorem V_astore_n (pc' : Nat) (hp : pc + 1 = pc') {n : Fin 4} (i : Nat) {kd j : Nat} {L' : List (Option zV)} (hd : decode cc pc = .ok (.astore_n n, 1)) (hi : (n : Nat) = i) (hn : i < nL) (hl : zst1 L i (zK kd j) = L') (k : V E own cc nL ret d Q pc' L' st mm) : V E own cc nL ret d Q pc L (zK kd j :: st) mm := by
  subst hp
  intro p e s m args below meth c H locs ls C hS hP hL hst
  subst hl
  exact lv_astore_n (lv := zas E 0 L) C.1 C.2.1 hd hi (zLH_has hL) hn rfl (fun ls' hl' => k p e s m args below meth c H locs ls' C hS hP (zLH_of1 (v := zK kd j) hL (zst_h hst) hl') (zst_t hst))
theorem V_astore (pc' : Nat) (hp : pc + 2 = pc') {i : Nat} {kd j : Nat} {L' : List (Option zV)} (hd : decode cc pc = .ok (.astore i, 2)) (hn : i < nL) (hl : zst1 L i (zK kd j) = L') (k : V E own cc nL ret d Q pc' L' st mm) : V E own cc nL ret d Q pc L (zK kd j :: st) mm := by
  subst hp
  intro p e s m args below meth c H locs ls C hS hP hL hst
  subst hl
  exact lv_astore (lv := zas E 0 L) C.1 C.2.1 hd (zLH_has hL) hn rfl (fun ls' hl' => k p e s m args below meth c H locs ls' C hS hP (zLH_of1 (v := zK kd j) hL (zst_h hst) hl') (zst_t hst))
theorem V_lstore_n (pc' : Nat) (hp : pc + 1 = pc') {n : Fin 4} (i : Nat) {x : Int64} {L' : List (Option zV)} (hd : decode cc pc = .ok (.lstore_n n, 1)) (hi : (n : Nat) = i) (hn : i + 1 < nL) (hl : zst2 L i (zJ x) = L') (k : V E own cc nL ret d Q pc' L' st mm) : V E own cc nL ret d Q pc L (zJ x :: st) mm := by
  subst hp
  intro p e s m args below meth c H locs ls C hS hP hL hst
  subst hl
  exact lv_lstore_n (lv := zas E 0 L) C.1 C.2.1 hd hi (zLH_has hL) hn rfl (fun ls' hl' => k p e s m args below meth c H locs ls' C hS hP (zLH_of2 (v := zJ x) hL (zst_h hst) hl') (zst_t hst))
theorem V_lstore (pc' : Nat) (hp : pc + 2 = pc') {i : Nat} {x : Int64} {L' : List (Option zV)} (hd : decode cc pc = .ok (.lstore i, 2)) (hn : i + 1 < nL) (hl : zst2 L i (zJ x) = L') (k : V E own cc nL ret d Q pc' L' st mm) : V E own cc nL ret d Q pc L (zJ x :: st) mm := by
  subst hp
  intro p e s m args below meth c H locs ls C hS hP hL hst
  subst hl
  exact lv_lstore (lv := zas E 0 L) C.1 C.2.1 hd (zLH_has hL) hn rfl (fun ls' hl' => k p e s m args below meth c H locs ls' C hS hP (zLH_of2 (v := zJ x) hL (zst_h hst) hl') (zst_t hst))
theorem V_dstore_n (pc' : Nat) (hp : pc + 1 = pc') {n : Fin 4} (i : Nat) {x : UInt64} {L' : List (Option zV)} (hd : decode cc pc = .ok (.dstore_n n, 1)) (hi : (n : Nat) = i) (hn : i + 1 < nL) (hl : zst2 L i (zD x) = L') (k : V E own cc nL ret d Q pc' L' st mm) : V E own cc nL ret d Q pc L (zD x :: st) mm := by
  subst hp
  intro p e s m args below meth c H locs ls C hS hP hL hst
  subst hl
  exact lv_dstore_n (lv := zas E 0 L) C.1 C.2.1 hd hi (zLH_has hL) hn rfl (fun ls' hl' => k p e s m args below meth c H locs ls' C hS hP (zLH_of2 (v := zD x) hL (zst_h hst) hl') (zst_t hst))
theorem V_dstore (pc' : Nat) (hp : pc + 2 = pc') {i : Nat} {x : UInt64} {L' : List (Option zV)} (hd : decode cc pc = .ok (.dstore i, 2)) (hn : i + 1 < nL) (hl : zst2 L i (zD x) = L') (k : V E own cc nL ret d Q pc' L' st mm) : V E own cc nL ret d Q pc L (zD x :: st) mm := by
  subst hp
  intro p e s m args below meth c H locs ls C hS hP hL hst
  subst hl
  exact lv_dstore (lv := zas E 0 L) C.1 C.2.1 hd (zLH_has hL) hn rfl (fun ls' hl' => k p e s m args below meth c H locs ls' C hS hP (zLH_of2 (v := zD x) hL (zst_h hst) hl') (zst_t hst))
theorem V_iinc (pc' : Nat) (hp : pc + 3 = pc') {i : Nat} {n : Int} {x : Int32} (v : Int32) {L' : List (Option zV)} (hd : decode cc pc = .ok (.iinc i n, 3)) (hx : L[i]? = some (some (zI x))) (hv : x + Int32.ofInt n = v) (hn : i < nL) (hl : zst1 L i (zI v) = L') (k : V E own cc nL ret d Q pc' L' st mm) : V E own cc nL ret d Q pc L st mm := by
  subst hp
  intro p e s m args below meth c H locs ls C hS hP hL hst
  subst hl
  obtain ⟨q9, h9⟩ := List.getElem?_of_mem (zas_in E L 0 i _ hx)
  rw [Nat.zero_add] at h9
  exact lv_iinc (lv := zas E 0 L) (v := v) C.1 C.2.1 hd (zLH_has hL) h9 hv hn rfl (fun ls' hl' => k p e s m args below meth c H locs ls' C hS hP (zLH_of1 (v := zI v) hL trivial hl') hst)
theorem V_iadd (pc' : Nat) (hp : pc + 1 = pc') {x : Int32} {y : Int32} (hd : decode cc pc = .ok (.iadd, 1)) (k : V E own cc nL ret d Q pc' L (zI (x + y) :: st) mm) : V E own cc nL ret d Q pc L (zI y :: zI x :: st) mm := by
  subst hp
  intro p e s m args below meth c H locs ls C hS hP hL hst
  exact lv_iadd C.1 C.2.1 hd (k p e s m args below meth c H locs ls C hS hP hL (zst_i (zst_t (zst_t hst))))
theorem V_isub (pc' : Nat) (hp : pc + 1 = pc') {x : Int32} {y : Int32} (hd : decode cc pc = .ok (.isub, 1)) (k : V E own cc nL ret d Q pc' L (zI (x - y) :: st) mm) : V E own cc nL ret d Q pc L (zI y :: zI x :: st) mm := by
  subst hp
  intro p e s m args below meth c H locs ls C hS hP hL hst
  exact lv_isub C.1 C.2.1 hd (k p e s m args below meth c H locs ls C hS hP hL (zst_i (zst_t (zst_t hst))))
theorem V_imul (pc' : Nat) (hp : pc + 1 = pc') {x : Int32} {y : Int32} (hd : decode cc pc = .ok (.imul, 1)) (k : V E own cc nL ret d Q pc' L (zI (x * y) :: st) mm) : V E own cc nL ret d Q pc L (zI y :: zI x :: st) mm := by
  subst hp
  intro p e s m args below meth c H locs ls C hS hP hL hst
  exact lv_imul C.1 C.2.1 hd (k p e s m args below meth c H locs ls C hS hP hL (zst_i (zst_t (zst_t hst))))
theorem V_iand (pc' : Nat) (hp : pc + 1 = pc') {x : Int32} {y : Int32} (hd : decode cc pc = .ok (.iand, 1)) (k : V E own cc nL ret d Q pc' L (zI (x &&& y) :: st) mm) : V E own cc nL ret d Q pc L (zI y :: zI x :: st) mm := by
  subst hp
  intro p e s m args below meth c H locs ls C hS hP hL hst
  exact lv_iand C.1 C.2.1 hd (k p e s m args below meth c H locs ls C hS hP hL (zst_i (zst_t (zst_t hst))))
theorem V_ior (pc' : Nat) (hp : pc + 1 = pc') {x : Int32} {y : Int32} (hd : decode cc pc = .ok (.ior, 1)) (k : V E own cc nL ret d Q pc' L (zI (x ||| y) :: st) mm) : V E own cc nL ret d Q pc L (zI y :: zI x :: st) mm := by
  subst hp
  intro p e s m args below meth c H locs ls C hS hP hL hst
  exact lv_ior C.1 C.2.1 hd (k p e s m args below meth c H locs ls C hS hP hL (zst_i (zst_t (zst_t hst))))
theorem V_ixor (pc' : Nat) (hp : pc + 1 = pc') {x : Int32} {y : Int32} (hd : decode cc pc = .ok (.ixor, 1)) (k : V E own cc nL ret d Q pc' L (zI (x ^^^ y) :: st) mm) : V E own cc nL ret d Q pc L (zI y :: zI x :: st) mm := by
  subst hp
  intro p e s m args below meth c H locs ls C hS hP hL hst
  exact lv_ixor C.1 C.2.1 hd (k p e s m args below meth c H locs ls C hS hP hL (zst_i (zst_t (zst_t hst))))
theorem V_ishl (pc' : Nat) (hp : pc + 1 = pc') {x : Int32} {y : Int32} (hd : decode cc pc = .ok (.ishl, 1)) (k : V E own cc nL ret d Q pc' L (zI (x <<< (y &&& 31)) :: st) mm) : V E own cc nL ret d Q pc L (zI y :: zI x :: st) mm := by
  subst hp
  intro p e s m args below meth c H locs ls C hS hP hL hst
  exact lv_ishl C.1 C.2.1 hd (k p e s m args below meth c H locs ls C hS hP hL (zst_i (zst_t (zst_t hst))))
theorem V_ishr (pc' : Nat) (hp : pc + 1 = pc') {x : Int32} {y : Int32} (hd : decode cc pc = .ok (.ishr, 1)) (k : V E own cc nL ret d Q pc' L (zI (x >>> (y &&& 31)) :: st) mm) : V E own cc nL ret d Q pc L (zI y :: zI x :: st) mm := by
  subst hp
  intro p e s m args below meth c H locs ls C hS hP hL hst
  exact lv_ishr C.1 C.2.1 hd (k p e s m args below meth c H locs ls C hS hP hL (zst_i (zst_t (zst_t hst))))
theorem V_ladd (pc' : Nat) (hp : pc + 1 = pc') {x : Int64} {y : Int64} (hd : decode cc pc = .ok (.ladd, 1)) (k : V E own cc nL ret d Q pc' L (zJ (x + y) :: st) mm) : V E own cc nL ret d Q pc L (zJ y :: zJ x :: st) mm := by
  subst hp
  intro p e s m args below meth c H locs ls C hS hP hL hst
  exact lv_ladd C.1 C.2.1 hd (k p e s m args below meth c H locs ls C hS hP hL (zst_j (zst_t (zst_t hst))))
theorem V_lsub (pc' : Nat) (hp : pc + 1 = pc') {x : Int64} {y : Int64} (hd : decode cc pc = .ok (.lsub, 1)) (k : V E own cc nL ret d Q pc' L (zJ (x - y) :: st) mm) : V E own cc nL ret d Q pc L (zJ y :: zJ x :: st) mm := by
  subst hp
  intro p e s m args below meth c H locs ls C hS hP hL hst
  exact lv_lsub C.1 C.2.1 hd (k p e s m args below meth c H locs ls C hS hP hL (zst_j (zst_t (zst_t hst))))
theorem V_lmul (pc' : Nat) (hp : pc + 1 = pc') {x : Int64} {y : Int64} (hd : decode cc pc = .ok (.lmul, 1)) (k : V E own cc nL ret d Q pc' L (zJ (x * y) :: st) mm) : V E own cc nL ret d Q pc L (zJ y :: zJ x :: st) mm := by
  subst hp
  intro p e s m args below meth c H locs ls C hS hP hL hst
  exact lv_lmul C.1 C.2.1 hd (k p e s m args below meth c H locs ls C hS hP hL (zst_j (zst_t (zst_t hst))))
theorem V_idiv (pc' : Nat) (hp : pc + 1 = pc') {x y : Int32} (hd : decode cc pc = .ok (.idiv, 1)) (hne : ¬ y = 0) (k : V E own cc nL ret d Q pc' L (zI (x / y) :: st) mm) : V E own cc nL ret d Q pc L (zI y :: zI x :: st) mm := by
  subst hp
  intro p e s m args below meth c H locs ls C hS hP hL hst
  exact lv_idiv C.1 C.2.1 hd hne (k p e s m args below meth c H locs ls C hS hP hL (zst_i (zst_t (zst_t hst))))
theorem V_irem (pc' : Nat) (hp : pc + 1 = pc') {x y : Int32} (hd : decode cc pc = .ok (.irem, 1)) (hne : ¬ y = 0) (k : V E own cc nL ret d Q pc' L (zI (x - x / y * y) :: st) mm) : V E own cc nL ret d Q pc L (zI y :: zI x :: st) mm := by
  subst hp
  intro p e s m args below meth c H locs ls C hS hP hL hst
  exact lv_irem C.1 C.2.1 hd hne (k p e s m args below meth c H locs ls C hS hP hL (zst_i (zst_t (zst_t hst))))
theorem V_i2l (pc' : Nat) (hp : pc + 1 = pc') {x : Int32} (hd : decode cc pc = .ok (.i2l, 1)) (k : V E own cc nL ret d Q pc' L (zJ x.toInt64 :: st) mm) : V E own cc nL ret d Q pc L (zI x :: st) mm := by
  subst hp
  intro p e s m args below meth c H locs ls C hS hP hL hst
  exact lv_i2l C.1 C.2.1 hd rfl (k p e s m args below meth c H locs ls C hS hP hL (zst_j (zst_t hst)))
theorem V_i2b (pc' : Nat) (hp : pc + 1 = pc') {x : Int32} (hd : decode cc pc = .ok (.i2b, 1)) (k : V E own cc nL ret d Q pc' L (zI x.toInt8.toInt32 :: st) mm) : V E own cc nL ret d Q pc L (zI x :: st) mm := by
  subst hp
  intro p e s m args below meth c H locs ls C hS hP hL hst
  exact lv_i2b C.1 C.2.1 hd rfl (k p e s m args below meth c H locs ls C hS hP hL (zst_i (zst_t hst)))
theorem V_i2c (pc' : Nat) (hp : pc + 1 = pc') {x : Int32} (hd : decode cc pc = .ok (.i2c, 1)) (k : V E own cc nL ret d Q pc' L (zI (x.toUInt32 % 65536).toInt32 :: st) mm) : V E own cc nL ret d Q pc L (zI x :: st) mm := by
  subst hp
  intro p e s m args below meth c H locs ls C hS hP hL hst
  exact lv_i2c C.1 C.2.1 hd rfl (k p e s m args below meth c H locs ls C hS hP hL (zst_i (zst_t hst)))
theorem V_iushr (pc' : Nat) (hp : pc + 1 = pc') {x y : Int32} (hd : decode cc pc = .ok (.iushr, 1)) (k : V E own cc nL ret d Q pc' L (zI (x.toUInt32 >>> (y.toUInt32 &&& Int32.toUInt32 31)).toInt32 :: st) mm) : V E own cc nL ret d Q pc L (zI y :: zI x :: st) mm := by
  subst hp
  intro p e s m args below meth c H locs ls C hS hP hL hst
  exact lv_iushr C.1 C.2.1 hd rfl (k p e s m args below meth c H locs ls C hS hP hL (zst_i (zst_t (zst_t hst))))
theorem V_lshl (pc' : Nat) (hp : pc + 1 = pc') {x : Int64} {y : Int32} (hd : decode cc pc = .ok (.lshl, 1)) (k : V E own cc nL ret d Q pc' L (zJ (x <<< (y.toInt64 &&& 63)) :: st) mm) : V E own cc nL ret d Q pc L (zI y :: zJ x :: st) mm := by
  subst hp
  intro p e s m args below meth c H locs ls C hS hP hL hst
  exact lv_lshl C.1 C.2.1 hd rfl (k p e s m args below meth c H locs ls C hS hP hL (zst_j (zst_t (zst_t hst))))
theorem V_lcmp (pc' : Nat) (hp : pc + 1 = pc') {x y : Int64} (hd : decode cc pc = .ok (.lcmp, 1)) (k : V E own cc nL ret d Q pc' L (zI (lg_cmp x y) :: st) mm) : V E own cc nL ret d Q pc L (zJ y :: zJ x :: st) mm := by
  subst hp
  intro p e s m args below meth c H locs ls C hS hP hL hst
  exact W.lcmp C.1 C.2.1 hd (k p e s m args below meth c H locs ls C hS hP hL (zst_i (zst_t (zst_t hst))))
theorem V_i2d (pc' : Nat) (hp : pc + 1 = pc') {x : Int32} (hd : decode cc pc = .ok (.i2d, 1)) (k : V E own cc nL ret d Q pc' L (zD (FP.i2d x) :: st) mm) : V E own cc nL ret d Q pc L (zI x :: st) mm := by
  subst hp
  intro p e s m args below meth c H locs ls C hS hP hL hst
  exact lv_i2d C.1 C.2.1 hd (k p e s m args below meth c H locs ls C hS hP hL (zst_d (zst_t hst)))
theorem V_ddiv (pc' : Nat) (hp : pc + 1 = pc') {x y : UInt64} (hd : decode cc pc = .ok (.ddiv, 1)) (hne : vf_n64 (FP.ddiv x y)) (k : V E own cc nL ret d Q pc' L (zD (FP.ddiv x y) :: st) mm) : V E own cc nL ret d Q pc L (zD y :: zD x :: st) mm := by
  subst hp
  intro p e s m args below meth c H locs ls C hS hP hL hst
  exact lv_ddiv C.1 C.2.1 hd hne (k p e s m args below meth c H locs ls C hS hP hL (zst_d (zst_t (zst_t hst))))
theorem zcat1 {v : zV} (h : (zc E v).category = 1) : (zc E v).category = 1 := h
theorem V_dup (pc' : Nat) (hp : pc + 1 = pc') {v : zV} (hd : decode cc pc = .ok (.dup, 1)) (hc : (zc E v).category = 1) (k : V E own cc nL ret d Q pc' L (v :: v :: st) mm) : V E own cc nL ret d Q pc L (v :: st) mm := by
  subst hp
  intro p e s m args below meth c H locs ls C hS hP hL hst
  exact lv_dup C.1 C.2.1 hd hc (k p e s m args below meth c H locs ls C hS hP hL (zst_c (zst_h hst) hst))
theorem V_pop (pc' : Nat) (hp : pc + 1 = pc') {v : zV} (hd : decode cc pc = .ok (.pop, 1)) (hc : (zc E v).category = 1) (k : V E own cc nL ret d Q pc' L st mm) : V E own cc nL ret d Q pc L (v :: st) mm := by
  subst hp
  intro p e s m args below meth c H locs ls C hS hP hL hst
  exact lv_pop C.1 C.2.1 hd hc (k p e s m args below meth c H locs ls C hS hP hL (zst_t hst))
theorem V_dup_x1 (pc' : Nat) (hp : pc + 1 = pc') {v w : zV} (hd : decode cc pc = .ok (.dup_x1, 1)) (hc : (zc E v).category = 1) (hc2 : (zc E w).category = 1) (k : V E own cc nL ret d Q pc' L (v :: w :: v :: st) mm) : V E own cc nL ret d Q pc L (v :: w :: st) mm := by
  subst hp
  intro p e s m args below meth c H locs ls C hS hP hL hst
  exact lv_dup_x1 C.1 C.2.1 hd hc hc2 (k p e s m args below meth c H locs ls C hS hP hL (zst_c (zst_h hst) (zst_c (zst_h (zst_t hst)) (zst_c (zst_h hst) (zst_t (zst_t hst))))))
theorem V_dup2 (pc' : Nat) (hp : pc + 1 = pc') {v w : zV} (hd : decode cc pc = .ok (.dup2, 1)) (hc : (zc E v).category = 1) (hc2 : (zc E w).category = 1) (k : V E own cc nL ret d Q pc' L (v :: w :: v :: w :: st) mm) : V E own cc nL ret d Q pc L (v :: w :: st) mm := by
  subst hp
  intro p e s m args below meth c H locs ls C hS hP hL hst
  exact lv_dup2_11 C.1 C.2.1 hd hc hc2 (k p e s m args below meth c H locs ls C hS hP hL (zst_c (zst_h hst) (zst_c (zst_h (zst_t hst)) hst)))
theorem V_goto (tgt : Nat) {off : Int} (hd : decode cc pc = .ok (.goto off, 3)) (ht : (pc : Int) + off = (tgt : Int)) (k : V E own cc nL ret d Q tgt L st mm) : V E own cc nL ret d Q pc L st mm := by
  intro p e s m args below meth c H locs ls C hS hP hL hst
  exact lv_goto C.1 C.2.1 hd ht (k p e s m args below meth c H locs ls C hS hP hL hst)
theorem V_wk {L' : List (Option zV)} (hl : ∀ (i : Nat) (v : zV), L'[i]? = some (some v) → L[i]? = some (some v)) (hn : L'.length = L.length) (k : V E own cc nL ret d Q pc L' st mm) : V E own cc nL ret d Q pc L st mm := by
  intro p e s m args below meth c H locs ls C hS hP hL hst
  exact k p e s m args below meth c H locs ls C hS hP ⟨hL.1, hL.2.1, hn.trans hL.2.2.1, fun i v h => hL.2.2.2 i v (hl i v h)⟩ hst
def zsub (L' L : List (Option zV)) : Prop := (∀ (i : Nat) (v : zV), L'[i]? = some (some v) → L[i]? = some (some v)) ∧ L'.length = L.length
theorem zsub_0 : zsub [] [] := ⟨fun i v h => h, rfl⟩
theorem zsub_s {a b : List (Option zV)} {x : Option zV} (h : zsub a b) : zsub (x :: a) (x :: b) := ⟨fun i v hi => by
  cases i with
  | zero => exact hi
  | succ i => rw [List.getElem?_cons_succ] at hi ⊢; exact h.1 i v hi, by simp [h.2]⟩
theorem zsub_n {a b : List (Option zV)} {x : Option zV} (h : zsub a b) : zsub (none :: a) (x :: b) := ⟨fun i v hi => by
  cases i with
  | zero => simp at hi
  | succ i => rw [List.getElem?_cons_succ] at hi ⊢; exact h.1 i v hi, by simp [h.2]⟩
theorem V_w {L' : List (Option zV)} (h : zsub L' L) (k : V E own cc nL ret d Q pc L' st mm) : V E own cc nL ret d Q pc L st mm := V_wk h.1 h.2 k
theorem V_if_eq (pc' tgt : Nat) (hp : pc + 3 = pc') {x : Int32} {off : Int} (hd : decode cc pc = .ok (.ifCond .eq off, 3)) (ht : (pc : Int) + off = (tgt : Int)) (kt : x = 0 → V E own cc nL ret d Q tgt L st mm) (kf : ¬ x = 0 → V E own cc nL ret d Q pc' L st mm) : V E own cc nL ret d Q pc L (zI x :: st) mm := by
  subst hp
  intro p e s m args below meth c H locs ls C hS hP hL hst
  exact lv_if_eq C.1 C.2.1 hd ht (fun q => kt q p e s m args below meth c H locs ls C hS hP hL (zst_t hst)) (fun q => kf q p e s m args below meth c H locs ls C hS hP hL (zst_t hst))
theorem V_if_ne (pc' tgt : Nat) (hp : pc + 3 = pc') {x : Int32} {off : Int} (hd : decode cc pc = .ok (.ifCond .ne off, 3)) (ht : (pc : Int) + off = (tgt : Int)) (kt : ¬ x = 0 → V E own cc nL ret d Q tgt L st mm) (kf : x = 0 → V E own cc nL ret d Q pc' L st mm) : V E own cc nL ret d Q pc L (zI x :: st) mm := by
  subst hp
  intro p e s m args below meth c H locs ls C hS hP hL hst
  exact lv_if_ne C.1 C.2.1 hd ht (fun q => kt q p e s m args below meth c H locs ls C hS hP hL (zst_t hst)) (fun q => kf q p e s m args below meth c H locs ls C hS hP hL (zst_t hst))
theorem V_if_lt (pc' tgt : Nat) (hp : pc + 3 = pc') {x : Int32} {off : Int} (hd : decode cc pc = .ok (.ifCond .lt off, 3)) (ht : (pc : Int) + off = (tgt : Int)) (kt : x < 0 → V E own cc nL ret d Q tgt L st mm) (kf : ¬ x < 0 → V E own cc nL ret d Q pc' L st mm) : V E own cc nL ret d Q pc L (zI x :: st) mm := by
  subst hp
  intro p e s m args below meth c H locs ls C hS hP hL hst
  exact lv_if_lt C.1 C.2.1 hd ht (fun q => kt q p e s m args below meth c H locs ls C hS hP hL (zst_t hst)) (fun q => kf q p e s m args below meth c H locs ls C hS hP hL (zst_t hst))
theorem V_if_ge (pc' tgt : Nat) (hp : pc + 3 = pc') {x : Int32} {off : Int} (hd : decode cc pc = .ok (.ifCond .ge off, 3)) (ht : (pc : Int) + off = (tgt : Int)) (kt : 0 ≤ x → V E own cc nL ret d Q tgt L st mm) (kf : ¬ 0 ≤ x → V E own cc nL ret d Q pc' L st mm) : V E own cc nL ret d Q pc L (zI x :: st) mm := by
  subst hp
  intro p e s m args below meth c H locs ls C hS hP hL hst
  exact lv_if_ge C.1 C.2.1 hd ht (fun q => kt q p e s m args below meth c H locs ls C hS hP hL (zst_t hst)) (fun q => kf q p e s m args below meth c H locs ls C hS hP hL (zst_t hst))
theorem V_if_gt (pc' tgt : Nat) (hp : pc + 3 = pc') {x : Int32} {off : Int} (hd : decode cc pc = .ok (.ifCond .gt off, 3)) (ht : (pc : Int) + off = (tgt : Int)) (kt : 0 < x → V E own cc nL ret d Q tgt L st mm) (kf : ¬ 0 < x → V E own cc nL ret d Q pc' L st mm) : V E own cc nL ret d Q pc L (zI x :: st) mm := by
  subst hp
  intro p e s m args below meth c H locs ls C hS hP hL hst
  exact lv_if_gt C.1 C.2.1 hd ht (fun q => kt q p e s m args below meth c H locs ls C hS hP hL (zst_t hst)) (fun q => kf q p e s m args below meth c H locs ls C hS hP hL (zst_t hst))
theorem V_if_le (pc' tgt : Nat) (hp : pc + 3 = pc') {x : Int32} {off : Int} (hd : decode cc pc = .ok (.ifCond .le off, 3)) (ht : (pc : Int) + off = (tgt : Int)) (kt : x ≤ 0 → V E own cc nL ret d Q tgt L st mm) (kf : ¬ x ≤ 0 → V E own cc nL ret d Q pc' L st mm) : V E own cc nL ret d Q pc L (zI x :: st) mm := by
  subst hp
  intro p e s m args below meth c H locs ls C hS hP hL hst
  exact lv_if_le C.1 C.2.1 hd ht (fun q => kt q p e s m args below meth c H locs ls C hS hP hL (zst_t hst)) (fun q => kf q p e s m args below meth c H locs ls C hS hP hL (zst_t hst))
theorem V_icmp_eq (pc' tgt : Nat) (hp : pc + 3 = pc') {x y : Int32} {off : Int} (hd : decode cc pc = .ok (.if_icmp .eq off, 3)) (ht : (pc : Int) + off = (tgt : Int)) (kt : x = y → V E own cc nL ret d Q tgt L st mm) (kf : ¬ x = y → V E own cc nL ret d Q pc' L st mm) : V E own cc nL ret d Q pc L (zI y :: zI x :: st) mm := by
  subst hp
  intro p e s m args below meth c H locs ls C hS hP hL hst
  exact lv_icmp_eq C.1 C.2.1 hd ht (fun q => kt q p e s m args below meth c H locs ls C hS hP hL (zst_t (zst_t hst))) (fun q => kf q p e s m args below meth c H locs ls C hS hP hL (zst_t (zst_t hst)))
theorem V_icmp_ne (pc' tgt : Nat) (hp : pc + 3 = pc') {x y : Int32} {off : Int} (hd : decode cc pc = .ok (.if_icmp .ne off, 3)) (ht : (pc : Int) + off = (tgt : Int)) (kt : ¬ x = y → V E own cc nL ret d Q tgt L st mm) (kf : x = y → V E own cc nL ret d Q pc' L st mm) : V E own cc nL ret d Q pc L (zI y :: zI x :: st) mm := by
  subst hp
  intro p e s m args below meth c H locs ls C hS hP hL hst
  exact lv_icmp_ne C.1 C.2.1 hd ht (fun q => kt q p e s m args below meth c H locs ls C hS hP hL (zst_t (zst_t hst))) (fun q => kf q p e s m args below meth c H locs ls C hS hP hL (zst_t (zst_t hst)))
theorem V_icmp_lt (pc' tgt : Nat) (hp : pc + 3 = pc') {x y : Int32} {off : Int} (hd : decode cc pc = .ok (.if_icmp .lt off, 3)) (ht : (pc : Int) + off = (tgt : Int)) (kt : x < y → V E own cc nL ret d Q tgt L st mm) (kf : ¬ x < y → V E own cc nL ret d Q pc' L st mm) : V E own cc nL ret d Q pc L (zI y :: zI x :: st) mm := by
  subst hp
  intro p e s m args below meth c H locs ls C hS hP hL hst
  exact lv_icmp_lt C.1 C.2.1 hd ht (fun q => kt q p e s m args below meth c H locs ls C hS hP hL (zst_t (zst_t hst))) (fun q => kf q p e s m args below meth c H locs ls C hS hP hL (zst_t (zst_t hst)))
theorem V_icmp_ge (pc' tgt : Nat) (hp : pc + 3 = pc') {x y : Int32} {off : Int} (hd : decode cc pc = .ok (.if_icmp .ge off, 3)) (ht : (pc : Int) + off = (tgt : Int)) (kt : y ≤ x → V E own cc nL ret d Q tgt L st mm) (kf : ¬ y ≤ x → V E own cc nL ret d Q pc' L st mm) : V E own cc nL ret d Q pc L (zI y :: zI x :: st) mm := by
  subst hp
  intro p e s m args below meth c H locs ls C hS hP hL hst
  exact lv_icmp_ge C.1 C.2.1 hd ht (fun q => kt q p e s m args below meth c H locs ls C hS hP hL (zst_t (zst_t hst))) (fun q => kf q p e s m args below meth c H locs ls C hS hP hL (zst_t (zst_t hst)))
theorem V_icmp_gt (pc' tgt : Nat) (hp : pc + 3 = pc') {x y : Int32} {off : Int} (hd : decode cc pc = .ok (.if_icmp .gt off, 3)) (ht : (pc : Int) + off = (tgt : Int)) (kt : y < x → V E own cc nL ret d Q tgt L st mm) (kf : ¬ y < x → V E own cc nL ret d Q pc' L st mm) : V E own cc nL ret d Q pc L (zI y :: zI x :: st) mm := by
  subst hp
  intro p e s m args below meth c H locs ls C hS hP hL hst
  exact lv_icmp_gt C.1 C.2.1 hd ht (fun q => kt q p e s m args below meth c H locs ls C hS hP hL (zst_t (zst_t hst))) (fun q => kf q p e s m args below meth c H locs ls C hS hP hL (zst_t (zst_t hst)))
theorem V_icmp_le (pc' tgt : Nat) (hp : pc + 3 = pc') {x y : Int32} {off : Int} (hd : decode cc pc = .ok (.if_icmp .le off, 3)) (ht : (pc : Int) + off = (tgt : Int)) (kt : x ≤ y → V E own cc nL ret d Q tgt L st mm) (kf : ¬ x ≤ y → V E own cc nL ret d Q pc' L st mm) : V E own cc nL ret d Q pc L (zI y :: zI x :: st) mm := by
  subst hp
  intro p e s m args below meth c H locs ls C hS hP hL hst
  exact lv_icmp_le C.1 C.2.1 hd ht (fun q => kt q p e s m args below meth c H locs ls C hS hP hL (zst_t (zst_t hst))) (fun q => kf q p e s m args below meth c H locs ls C hS hP hL (zst_t (zst_t hst)))
theorem V_tabOut (tgt : Nat) {dflt lo hi : Int} {offs : Array Int} {len : Nat} {x : Int32} (hd : decode cc pc = .ok (.tableswitch dflt lo hi offs, len)) (h : x.toInt < lo ∨ hi < x.toInt) (ht : (pc : Int) + dflt = (tgt : Int)) (k : V E own cc nL ret d Q tgt L st mm) : V E own cc nL ret d Q pc L (zI x :: st) mm := by
  intro p e s m args below meth c H locs ls C hS hP hL hst
  exact lv_tableOut C.1 C.2.1 hd h ht (k p e s m args below meth c H locs ls C hS hP hL (zst_t hst))
theorem V_tabIn (tgt : Nat) {dflt lo hi : Int} {offs : Array Int} {len : Nat} {x : Int32} {off : Int} (hd : decode cc pc = .ok (.tableswitch dflt lo hi offs, len)) (h1 : ¬ x.toInt < lo) (h2 : ¬ hi < x.toInt) (ho : offs[(x.toInt - lo).toNat]? = some off) (ht : (pc : Int) + off = (tgt : Int)) (k : V E own cc nL ret d Q tgt L st mm) : V E own cc nL ret d Q pc L (zI x :: st) mm := by
  intro p e s m args below meth c H locs ls C hS hP hL hst
  exact lv_tableIn C.1 C.2.1 hd h1 h2 ho ht (k p e s m args below meth c H locs ls C hS hP hL (zst_t hst))
end ZR
