theorem zTB_of {args : Array Value} {s : State} (hts : ∀ w ∈ lw_tbl, w.before args s = true) : ∀ w ∈ zTB, w.before args s = true := fun w h => hts w (List.mem_filter.mp h).1
/-- class numbers and array classes -/
theorem env_K {args : Array Value} {s : State} (hts : ∀ w ∈ lw_tbl, w.before args s = true) : ∃ (D : va_G) (ac : Nat → ClassId), va_K D vwCl [(ac 0, .int), (ac 1, .byte), (ac 2, .boolean), (ac 3, .long), (ac 4, .object "TraitLines$Unit"), (ac 5, .object "TraitLines$World"), (ac 6, .array .int)] s := by
  have hz := zTB_of hts
  obtain ⟨c0, i0, hK0⟩ := u_known (C := RX0) (T := TX0) (N := 3) (n := 3) hz uw_0 (hts (.instantiable RX0 3) (List.mem_of_getElem? (i := 296) (by decide +kernel)))
  obtain ⟨c1, i1, hK1⟩ := u_known (C := RX1) (T := TX1) (N := 4) (n := 4) hz uw_1 (hts (.instantiable RX1 4) (List.mem_of_getElem? (i := 274) (by decide +kernel)))
  obtain ⟨c2, i2, hK2⟩ := u_known (C := RX2) (T := TX2) (N := 10) (n := 10) hz uw_2 (hts (.instantiable RX2 10) (List.mem_of_getElem? (i := 312) (by decide +kernel)))
  obtain ⟨c3, i3, hK3⟩ := u_known (C := RX3) (T := TX3) (N := 3) (n := 3) hz uw_3 (hts (.instantiable RX3 3) (List.mem_of_getElem? (i := 358) (by decide +kernel)))
  obtain ⟨c4, i4, hK4⟩ := u_known (C := RX4) (T := TX4) (N := 8) (n := 8) hz uw_4 (hts (.instantiable RX4 8) (List.mem_of_getElem? (i := 243) (by decide +kernel)))
  obtain ⟨c5, i5, hK5⟩ := u_known (C := RX5) (T := TX5) (N := 2) (n := 2) hz uw_5 (hts (.instantiable RX5 2) (List.mem_of_getElem? (i := 157) (by decide +kernel)))
  obtain ⟨c6, i6, hK6⟩ := u_known (C := RX6) (T := TX6) (N := 11) (n := 11) hz uw_6 (hts (.instantiable RX6 11) (List.mem_of_getElem? (i := 374) (by decide +kernel)))
  obtain ⟨c7, i7, hK7⟩ := u_known (C := RX7) (T := TX7) (N := 9) (n := 9) hz uw_7 (hts (.instantiable RX7 9) (List.mem_of_getElem? (i := 151) (by decide +kernel)))
  obtain ⟨c8, i8, hK8⟩ := u_known (C := RX8) (T := TX8) (N := 2) (n := 2) hz uw_8 (hts (.instantiable RX8 2) (List.mem_of_getElem? (i := 144) (by decide +kernel)))
  obtain ⟨c9, i9, hK9⟩ := u_known (C := RX9) (T := TX9) (N := 13) (n := 13) hz uw_9 (hts (.instantiable RX9 13) (List.mem_of_getElem? (i := 136) (by decide +kernel)))
  obtain ⟨c10, i10, hK10⟩ := u_known (C := RX10) (T := TX10) (N := 29) (n := 29) hz uw_10 (hts (.instantiable RX10 29) (List.mem_of_getElem? (i := 1091) (by decide +kernel)))
  obtain ⟨a0, ka0, ca0, f0, g0, h0⟩ := Cond.arrayClass_spec (hts (.arrayClass .int) (List.mem_of_getElem? (i := 178) (by decide +kernel)))
  obtain ⟨a1, ka1, ca1, f1, g1, h1⟩ := Cond.arrayClass_spec (hts (.arrayClass .byte) (List.mem_of_getElem? (i := 177) (by decide +kernel)))
  obtain ⟨a2, ka2, ca2, f2, g2, h2⟩ := Cond.arrayClass_spec (hts (.arrayClass .boolean) (List.mem_of_getElem? (i := 1184) (by decide +kernel)))
  obtain ⟨a3, ka3, ca3, f3, g3, h3⟩ := Cond.arrayClass_spec (hts (.arrayClass .long) (List.mem_of_getElem? (i := 1185) (by decide +kernel)))
  obtain ⟨ca4, a4, ka4, u4, _, g4, h4, f4⟩ := Cond.arrayOver_spec (hts (.arrayOver (.object "TraitLines$Unit")) (List.mem_of_getElem? (i := 150) (by decide +kernel)))
  obtain ⟨ca5, a5, ka5, u5, _, g5, h5, f5⟩ := Cond.arrayOver_spec (hts (.arrayOver (.object "TraitLines$World")) (List.mem_of_getElem? (i := 241) (by decide +kernel)))
  obtain ⟨ca6, a6, ka6, u6, _, g6, h6, f6⟩ := arrayOverA_spec (hts (.arrayOver (.array .int)) (List.mem_of_getElem? (i := 318) (by decide +kernel)))
  refine ⟨(fun k => match k with | 0 => c0 | 1 => c1 | 2 => c2 | 3 => c3 | 4 => c4 | 5 => c5 | 6 => c6 | 7 => c7 | 8 => c8 | 9 => c9 | _ => c10, fun k => match k with | 0 => i0 | 1 => i1 | 2 => i2 | 3 => i3 | 4 => i4 | 5 => i5 | 6 => i6 | 7 => i7 | 8 => i8 | 9 => i9 | _ => i10), fun t => match t with | 0 => a0 | 1 => a1 | 2 => a2 | 3 => a3 | 4 => a4 | 5 => a5 | _ => a6, ?_, ?_⟩
  · intro k q hq
    match k, hq with
    | 0, hq => cases hq; exact hK0
    | 1, hq => cases hq; exact hK1
    | 2, hq => cases hq; exact hK2
    | 3, hq => cases hq; exact hK3
    | 4, hq => cases hq; exact hK4
    | 5, hq => cases hq; exact hK5
    | 6, hq => cases hq; exact hK6
    | 7, hq => cases hq; exact hK7
    | 8, hq => cases hq; exact hK8
    | 9, hq => cases hq; exact hK9
    | 10, hq => cases hq; exact hK10
    | k + 11, hq => simp at hq
  · intro k q hq
    match k, hq with
    | 0, hq => cases hq; exact ⟨fun n z => ⟨fun k h => (by cases h), ka0, g0, ca0, h0⟩, f0⟩
    | 1, hq => cases hq; exact ⟨fun n z => ⟨fun k h => (by cases h), ka1, g1, ca1, h1⟩, f1⟩
    | 2, hq => cases hq; exact ⟨fun n z => ⟨fun k h => (by cases h), ka2, g2, ca2, h2⟩, f2⟩
    | 3, hq => cases hq; exact ⟨fun n z => ⟨fun k h => (by cases h), ka3, g3, ca3, h3⟩, f3⟩
    | 4, hq => cases hq; exact ⟨fun n z => ⟨fun k h => (by cases h), ka4, g4, ca4, h4⟩, ka4, ca4, g4, h4, u4, f4⟩
    | 5, hq => cases hq; exact ⟨fun n z => ⟨fun k h => (by cases h), ka5, g5, ca5, h5⟩, ka5, ca5, g5, h5, u5, f5⟩
    | 6, hq => cases hq; exact ⟨fun n z => ⟨fun k h => (by cases h), ka6, g6, ca6, h6⟩, f6⟩
    | k + 7, hq => simp at hq
/-- the constants -/
def ztm (i : Nat) : Term := match i with
  | 0 => .string "TraitLines$Reader" 60 | 1 => .string "TraitLines$Reader" 66 | 2 => .string "TraitLines$Reader" 86 | 3 => .string "TraitLines$Reader" 92 | _ => .string "TraitLines$Reader" 171
theorem z5 {P : Nat → Prop} (h0 : P 0) (h1 : P 1) (h2 : P 2) (h3 : P 3) (h4 : P 4) : ∀ i, i < 5 → P i := fun i hi => by
  match i, hi with
  | 0, _ => exact h0
  | 1, _ => exact h1
  | 2, _ => exact h2
  | 3, _ => exact h3
  | 4, _ => exact h4
theorem zeqR {args : Array Value} {s : State} {x y : Term} {a : Nat} (h : (Cond.eq x y).before args s = true) (hx : x.eval args s none [] s = some (.ref a)) : y.eval args s none [] s = some (.ref a) := by
  cases hy : y.eval args s none [] s with
  | none => simp [Cond.before, Cond.holds, Cond.value, hx, hy] at h
  | some w =>
    simp only [Cond.before, Cond.holds, Cond.value, hx, hy] at h
    cases w <;> simp_all
theorem vk_Rz {args : Array Value} {s : State} {own tx : String} {k a : Nat} (h1 : (Cond.stringRef own k tx).before args s = true) (h2 : (Term.string own k).eval args s none [] s = some (.ref a)) : vk_R own k tx a s := vk_R.of (A := args) h1 h2
theorem env_S {args : Array Value} {s : State} {A : Nat → Prop} (hts : ∀ w ∈ lw_tbl, w.before args s = true) (hgv : (Jvm.Cond.and given_1 narrow_1).before args s = true) (hA : ∀ a : Nat, a < s.heap.size → ¬ A a) : ∃ adK adV : Nat → Nat, vk_S 5 zlen zbyt adK adV A s s.heap ∧ ∀ q ∈ zstr, vk_R q.1 q.2.1 q.2.2.1 (adK q.2.2.2) s := by
  have hs := flat_of_before _ hgv
  have hel : ∀ i : Nat, i < 5 → ∀ j : Nat, j < zlen.getD i 0 → (Cond.eq (.elem (.field (ztm i) "java/lang/String" "value" "[B") (.int (Int32.ofNat j))) (.int ((zbyt.getD i []).getD j 0))).before args s = true := by
    intro i hi j hj
    revert j
    refine z5 (P := fun i => ∀ j, j < zlen.getD i 0 → (Cond.eq (.elem (.field (ztm i) "java/lang/String" "value" "[B") (.int (Int32.ofNat j))) (.int ((zbyt.getD i []).getD j 0))).before args s = true) ?_ ?_ ?_ ?_ ?_ i hi
    · intro j hj
      match j, hj with
      | 0, _ => exact hs _ (by decide +kernel)
      | 1, _ => exact hs _ (by decide +kernel)
      | 2, _ => exact hs _ (by decide +kernel)
      | 3, _ => exact hs _ (by decide +kernel)
      | 4, _ => exact hs _ (by decide +kernel)
    · intro j hj
      match j, hj with
      | 0, _ => exact hs _ (by decide +kernel)
      | 1, _ => exact hs _ (by decide +kernel)
      | 2, _ => exact hs _ (by decide +kernel)
      | 3, _ => exact hs _ (by decide +kernel)
    · intro j hj
      match j, hj with
      | 0, _ => exact hs _ (by decide +kernel)
      | 1, _ => exact hs _ (by decide +kernel)
    · intro j hj
      match j, hj with
      | 0, _ => exact hs _ (by decide +kernel)
      | 1, _ => exact hs _ (by decide +kernel)
      | 2, _ => exact hs _ (by decide +kernel)
      | 3, _ => exact hs _ (by decide +kernel)
    · intro j hj
      match j, hj with
      | 0, _ => exact hs _ (by decide +kernel)
      | 1, _ => exact hs _ (by decide +kernel)
      | 2, _ => exact hs _ (by decide +kernel)
      | 3, _ => exact hs _ (by decide +kernel)
      | 4, _ => exact hs _ (by decide +kernel)
  have hne : ∀ i j : Nat, i < 5 → j < 5 → i ≠ j → (Cond.not (Cond.eq (ztm i) (ztm j))).before args s = true ∨ (Cond.not (Cond.eq (ztm j) (ztm i))).before args s = true := by
    intro i j hi hj hne
    match i, hi, j, hj, hne with
    | 0, _, 0, _, h => exact absurd rfl h
    | 0, _, 1, _, _ => exact Or.inl (hs _ (by decide +kernel))
    | 0, _, 2, _, _ => exact Or.inl (hs _ (by decide +kernel))
    | 0, _, 3, _, _ => exact Or.inl (hs _ (by decide +kernel))
    | 0, _, 4, _, _ => exact Or.inl (hs _ (by decide +kernel))
    | 1, _, 0, _, _ => exact Or.inr (hs _ (by decide +kernel))
    | 1, _, 1, _, h => exact absurd rfl h
    | 1, _, 2, _, _ => exact Or.inl (hs _ (by decide +kernel))
    | 1, _, 3, _, _ => exact Or.inl (hs _ (by decide +kernel))
    | 1, _, 4, _, _ => exact Or.inl (hs _ (by decide +kernel))
    | 2, _, 0, _, _ => exact Or.inr (hs _ (by decide +kernel))
    | 2, _, 1, _, _ => exact Or.inr (hs _ (by decide +kernel))
    | 2, _, 2, _, h => exact absurd rfl h
    | 2, _, 3, _, _ => exact Or.inl (hs _ (by decide +kernel))
    | 2, _, 4, _, _ => exact Or.inl (hs _ (by decide +kernel))
    | 3, _, 0, _, _ => exact Or.inr (hs _ (by decide +kernel))
    | 3, _, 1, _, _ => exact Or.inr (hs _ (by decide +kernel))
    | 3, _, 2, _, _ => exact Or.inr (hs _ (by decide +kernel))
    | 3, _, 3, _, h => exact absurd rfl h
    | 3, _, 4, _, _ => exact Or.inl (hs _ (by decide +kernel))
    | 4, _, 0, _, _ => exact Or.inr (hs _ (by decide +kernel))
    | 4, _, 1, _, _ => exact Or.inr (hs _ (by decide +kernel))
    | 4, _, 2, _, _ => exact Or.inr (hs _ (by decide +kernel))
    | 4, _, 3, _, _ => exact Or.inr (hs _ (by decide +kernel))
    | 4, _, 4, _, h => exact absurd rfl h
  obtain ⟨adK, adV, h1, h2⟩ := vk_Sof (args := args) (s := s) (N := 5) (tm := ztm) (len := zlen) (byt := zbyt) (A := A) (by decide)
    (z5 (hs _ (by decide +kernel)) (hs _ (by decide +kernel)) (hs _ (by decide +kernel)) (hs _ (by decide +kernel)) (hs _ (by decide +kernel)))
    (z5 (hs _ (by decide +kernel)) (hs _ (by decide +kernel)) (hs _ (by decide +kernel)) (hs _ (by decide +kernel)) (hs _ (by decide +kernel)))
    (z5 (hs _ (by decide +kernel)) (hs _ (by decide +kernel)) (hs _ (by decide +kernel)) (hs _ (by decide +kernel)) (hs _ (by decide +kernel)))
    (z5 (hs _ (by decide +kernel)) (hs _ (by decide +kernel)) (hs _ (by decide +kernel)) (hs _ (by decide +kernel)) (hs _ (by decide +kernel)))
    hel hne hA
  · refine ⟨adK, adV, h1, ?_⟩
    have e0 := h2 0 (by decide)
    have e1 := h2 1 (by decide)
    have e2 := h2 2 (by decide)
    have e3 := h2 3 (by decide)
    have e4 := h2 4 (by decide)
    intro q hq
    simp only [zstr, List.mem_cons, List.not_mem_nil, or_false] at hq
    rcases hq with rfl | rfl | rfl | rfl | rfl | rfl | rfl | rfl | rfl | rfl
    · exact vk_Rz (hts (.stringRef "TraitLines$Reader" 60 "trait") (List.mem_of_getElem? (i := 491) (by decide +kernel))) e0
    · exact vk_Rz (hts (.stringRef "TraitLines$Reader" 66 "type") (List.mem_of_getElem? (i := 544) (by decide +kernel))) e1
    · exact vk_Rz (hts (.stringRef "TraitLines$Reader" 86 "of") (List.mem_of_getElem? (i := 564) (by decide +kernel))) e2
    · exact vk_Rz (hts (.stringRef "TraitLines$Reader" 92 "uses") (List.mem_of_getElem? (i := 593) (by decide +kernel))) e3
    · exact vk_Rz (hts (.stringRef "TraitLines$Reader" 171 "super") (List.mem_of_getElem? (i := 647) (by decide +kernel))) e4
    · exact vk_Rz (hts (.stringRef "TraitLinesModel" 174 "type") (List.mem_of_getElem? (i := 1214) (by decide +kernel))) (zeqR (hs (.eq (.string "TraitLines$Reader" 66) (.string "TraitLinesModel" 174)) (by decide +kernel)) e1)
    · exact vk_Rz (hts (.stringRef "TraitLinesModel" 176 "trait") (List.mem_of_getElem? (i := 1232) (by decide +kernel))) (zeqR (hs (.eq (.string "TraitLines$Reader" 60) (.string "TraitLinesModel" 176)) (by decide +kernel)) e0)
    · exact vk_Rz (hts (.stringRef "TraitLinesModel" 178 "of") (List.mem_of_getElem? (i := 1248) (by decide +kernel))) (zeqR (hs (.eq (.string "TraitLines$Reader" 86) (.string "TraitLinesModel" 178)) (by decide +kernel)) e2)
    · exact vk_Rz (hts (.stringRef "TraitLinesModel" 183 "uses") (List.mem_of_getElem? (i := 1257) (by decide +kernel))) (zeqR (hs (.eq (.string "TraitLines$Reader" 92) (.string "TraitLinesModel" 183)) (by decide +kernel)) e3)
    · exact vk_Rz (hts (.stringRef "TraitLinesModel" 159 "super") (List.mem_of_getElem? (i := 1304) (by decide +kernel))) (zeqR (hs (.eq (.string "TraitLines$Reader" 171) (.string "TraitLinesModel" 159)) (by decide +kernel)) e4)
/-- statics -/
theorem env_Z {args : Array Value} {s : State} {A : Nat → Prop} (hts : ∀ w ∈ lw_tbl, w.before args s = true) (hgv : (Jvm.Cond.and given_1 narrow_1).before args s = true) (hA : ∀ a : Nat, a < s.heap.size → ¬ A a) : va_Z "java/lang/String" "COMPACT_STRINGS" "Z" (.int 1) A s s.heap ∧ ∃ fm : Value, va_Z "jdk/internal/util/Preconditions" "SIOOBE_FORMATTER" "Ljava/util/function/BiFunction;" fm A s s.heap ∧ fm.category = 1 := by
  have hs := flat_of_before _ hgv
  refine ⟨va_Zof (hts (.laysStatic "java/lang/String" "COMPACT_STRINGS" "Z") (List.mem_of_getElem? (i := 505) (by decide +kernel))) (hts (.initialized "java/lang/String") (List.mem_of_getElem? (i := 126) (by decide +kernel))) (va_eqi (hs (.eq (.static "java/lang/String" "COMPACT_STRINGS" "Z") (.int 1)) (by decide +kernel))) hA, ?_⟩
  obtain ⟨v, hv, hvr⟩ := Cond.isRef_spec (hs (.isRef (.static "jdk/internal/util/Preconditions" "SIOOBE_FORMATTER" "Ljava/util/function/BiFunction;")) (by decide +kernel))
  refine ⟨v, va_Zof (hts (.laysStatic "jdk/internal/util/Preconditions" "SIOOBE_FORMATTER" "Ljava/util/function/BiFunction;") (List.mem_of_getElem? (i := 521) (by decide +kernel))) (hts (.initialized "jdk/internal/util/Preconditions") (List.mem_of_getElem? (i := 128) (by decide +kernel))) hv hA, ?_⟩
  cases v <;> first | rfl | (exact absurd hvr (by simp [Value.isRef]))
