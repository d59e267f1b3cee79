/-! the Lines' constructor: rows of rows -/
theorem cv_outer (c : ClassId) (N h0 : Nat) : ∀ i : Nat, Jvm.Free.Multi.outerC c N h0 i = arrV c N (fun j => va_rf (if j < i then some (h0 + 1 + j) else none))
  | 0 => by
    show ({ cls := c, slots := Array.replicate N .null, vm := .none } : Cell) = _
    rw [arrV_new]
    refine congrArg (arrV c N) (funext fun j => ?_)
    simp [va_rf]
  | i + 1 => by
    show (Jvm.Free.Multi.outerC c N h0 i).setSlot i (.ref (h0 + 1 + i)) = _
    rw [cv_outer c N h0 i, arrV_store]
    refine congrArg (arrV c N) (funext fun j => ?_)
    by_cases e : j = i
    · subst e
      simp [updV, va_rf]
    · by_cases h : j < i
      · simp [updV, e, h, Nat.lt_succ_of_lt h]
      · simp [updV, e, h, show ¬ j < i + 1 by omega]
section CM
variable {E : zE} {own : String} {cc : ByteArray} {nL d mc ms : Nat} {Q : zCm → Prop} {pc : Nat} {L : List (Option zV)} {st : List zV} {mm : zCm}
theorem C_mul (pc' : Nat) (hp : pc + 4 = pc') {index n k : Nat} {x y : Int32} {mm2 : zCm} (hd : decode cc pc = .ok (.multianewarray index 2, 4)) (hcl : Cond.classLink own index "[[I" ∈ zTB) (hac : Cond.arrayClass .int ∈ zTB) (hx0 : ¬ x < 0) (hy0 : ¬ y < 0) (hxn : x.toNatClampNeg = n ∧ n ≤ 100) (hyk : y.toNatClampNeg = k ∧ k ≤ 100) (h : cmul mm mc ms n k = some mm2) (kk : CV E own cc nL d mc ms Q pc' L (zK 0 mm.1.length :: st) mm2) : CV E own cc nL d mc ms Q pc L (zI y :: zI x :: st) mm := by
  subst hp
  intro p e s m args below meth c H locs ls C hS hP hL
  obtain ⟨hx, hb, hr, hml, hown, hts, hlk, hin0, had, hF0, hbs⟩ := id C
  obtain ⟨hb1, h⟩ := zobd h
  simp only [Bool.and_eq_true, decide_eq_true_eq] at hb1
  have e2 := zinj h
  subst e2
  obtain ⟨rfl, hn⟩ := hxn
  obtain ⟨rfl, hk⟩ := hyk
  intro T hT Xs
  obtain ⟨vm₁, cA, comp, -, fA, fC, -, -, X', step⟩ := Xs.multianewarray2F hx hown (ty := .int) (hts _ hcl) hF0.2.2.2.2 (hts _ hac) (g := F0 m pc ls (.int y :: .int x :: st.map (zc E))) rfl (by rw [hb]; exact hd) rfl hx0 hy0 (by omega) (by show _ * 4 ≤ _; omega) (by omega) rfl rfl hb1.1 hb1.2
  have ecA : cA = zac E 6 := Option.some.inj (fA.symm.trans (hF0.1.2 6 _ rfl).2)
  have eco : comp = zac E 0 := Option.some.inj (fC.symm.trans (hF0.1.2 0 _ rfl).2)
  subst ecA
  subst eco
  generalize hF : Jvm.Free.Multi.fill (T.setVm vm₁) (zac E 6) (zac E 0) x.toNatClampNeg y.toNatClampNeg (defaultValue .int) x.toNatClampNeg = F at X' step
  have hTh : (T.setVm vm₁).heap = H := hT
  obtain ⟨f1, f2, -, -⟩ := Jvm.Free.Multi.fill_facts (T.setVm vm₁) (zac E 6) (zac E 0) x.toNatClampNeg y.toNatClampNeg (defaultValue .int) x.toNatClampNeg
  rw [hF, hTh] at f1 f2
  have hold : ∀ q : Nat, q < H.size → F.heap[q]? = H[q]? := fun q hq => by
    have := Jvm.Free.Multi.fill_old (T.setVm vm₁) (zac E 6) (zac E 0) x.toNatClampNeg y.toNatClampNeg (defaultValue .int) (a := q) (by rw [hTh]; exact hq) x.toNatClampNeg
    rw [hF, hTh] at this
    exact this
  have hrow : ∀ j : Nat, j < x.toNatClampNeg → F.heap[H.size + 1 + j]? = some (Jvm.Free.Multi.innerC (zac E 0) y.toNatClampNeg (defaultValue .int)) := fun j hj => by
    have := Jvm.Free.Multi.fill_inner (T.setVm vm₁) (zac E 6) (zac E 0) x.toNatClampNeg y.toNatClampNeg (defaultValue .int) x.toNatClampNeg j hj
    rw [hF, hTh] at this
    exact this
  have hP9 : cHP E (mm.1 ++ ((26, (x.toNatClampNeg, (List.range x.toNatClampNeg).map (fun i => some (mm.1.length + 1 + i)))) :: List.replicate x.toNatClampNeg (20, (y.toNatClampNeg, [])))) F.heap := by
    refine ⟨by rw [f1, hP.1, List.length_append, List.length_cons, List.length_replicate]; omega, ?_⟩
    rw [cwf_app]
    refine va_P.app (hP.2.kept (fun k9 x9 hx9 => hold x9.1 ((hP.2 k9 x9 hx9).lt))) (fun k9 x9 hx9 => ?_)
    rw [cwf_get] at hx9
    cases k9 with
    | zero =>
      rw [List.getElem?_cons_zero] at hx9
      have hx8 := Option.some.inj hx9
      subst hx8
      show va_at (zDD E) vwCl (zb E + (0 + mm.1.length + 0), ce E (20 + 6, _)) F.heap
      rw [ce_arr]
      show F.heap[zb E + (0 + mm.1.length + 0)]? = some (vp_cell _ _)
      rw [show zb E + (0 + mm.1.length + 0) = H.size by rw [hP.1]; omega, f2, cv_outer]
      unfold carr
      rw [if_neg (by decide), if_neg (by decide), vp_cell_q]
      refine congrArg some (congrArg (arrV _ _) (funext fun j => congrArg va_rf ?_))
      rw [List.getD_eq_getElem?_getD, List.getElem?_map]
      by_cases hj : j < x.toNatClampNeg
      · rw [if_pos hj, List.getElem?_range hj]
        show some (H.size + 1 + j) = some (zb E + (mm.1.length + 1 + j))
        rw [hP.1]
        congr 1
        omega
      · rw [if_neg hj, List.getElem?_eq_none (by rw [List.length_range]; omega)]
        rfl
    | succ j =>
      rw [List.getElem?_cons_succ, List.getElem?_replicate] at hx9
      by_cases hj : j < x.toNatClampNeg
      · rw [if_pos hj] at hx9
        have hx8 := Option.some.inj hx9
        subst hx8
        show va_at (zDD E) vwCl (zb E + (0 + mm.1.length + (j + 1)), ce E (20 + 0, _)) F.heap
        rw [ce_arr]
        show F.heap[zb E + (0 + mm.1.length + (j + 1))]? = some (vp_cell _ _)
        rw [show zb E + (0 + mm.1.length + (j + 1)) = H.size + 1 + j by rw [hP.1]; omega, hrow j hj, carr_prim (by decide), ← arrV_new]
        rfl
      · rw [if_neg hj] at hx9
        cases hx9
  obtain ⟨t, a1, b1⟩ := kk p e s m args below meth c F.heap locs ls C (cS_push hS (by rw [f1]; omega) hold) hP9 hL F rfl X'
  refine ⟨t, step t ?_, b1⟩
  have e9 : T.heap.size = zad E 0 mm.1.length := by rw [hT, had]; exact hP.1
  rw [e9]
  exact a1
end CM
theorem wkX2_init {E : zE} {d : Nat} (hd : 1 ≤ d) {Q : zCm → Prop} {v0 : Nat} {mm o : zCm} (h : kX2_init_b v0 mm = some o) (hQ : ∀ r, o = r → Q r) : CV E RX2 cX2_init 1 d 38 435 Q 0 [some (zK 0 v0)] [] mm := by
  unfold kX2_init_b at h
  refine C_aload_n 1 rfl 0 dX2_init_0 rfl rfl ?_
  refine C_obj 4 rfl dX2_init_1 tb_316 tb_141 tb_142 (Nat.le_trans (by decide) hd) (Nat.le_of_ble_eq_true rfl) ?_
  refine C_aload_n 5 rfl 0 dX2_init_4 rfl rfl ?_
  refine C_bipush 7 rfl (v := 12) dX2_init_5 (by decide) ?_
  refine C_bipush 9 rfl (v := 12) dX2_init_7 (by decide) ?_
  obtain ⟨m1, h1, h⟩ := zbd h
  refine C_mul 13 rfl dX2_init_9 tb_317 tb_178 (by decide) (by decide) (by decide) (by decide) h1 ?_
  obtain ⟨m2, h1, h⟩ := zbd h
  refine C_putF 16 rfl dX2_init_13 ff_X2_11 ⟨_, _, rfl⟩ (by decide) (fun _ => rfl) (fun _ => rfl) h1 ?_
  refine C_aload_n 17 rfl 0 dX2_init_16 rfl rfl ?_
  refine C_bipush 19 rfl (v := 12) dX2_init_17 (by decide) ?_
  obtain ⟨m3, h1, h⟩ := zbd h
  refine C_newa 21 rfl (t := 0) dX2_init_19 (by decide) rfl tb_178 (by decide) (by decide) (by decide) h1 ?_
  obtain ⟨m4, h1, h⟩ := zbd h
  refine C_putF 24 rfl dX2_init_21 ff_X2_16 ⟨_, _, rfl⟩ (by decide) (fun _ => rfl) (fun _ => rfl) h1 ?_
  refine C_aload_n 25 rfl 0 dX2_init_24 rfl rfl ?_
  refine C_bipush 27 rfl (v := 12) dX2_init_25 (by decide) ?_
  refine C_bipush 29 rfl (v := 12) dX2_init_27 (by decide) ?_
  obtain ⟨m5, h1, h⟩ := zbd h
  refine C_mul 33 rfl dX2_init_29 tb_317 tb_178 (by decide) (by decide) (by decide) (by decide) h1 ?_
  obtain ⟨m6, h1, h⟩ := zbd h
  refine C_putF 36 rfl dX2_init_33 ff_X2_20 ⟨_, _, rfl⟩ (by decide) (fun _ => rfl) (fun _ => rfl) h1 ?_
  refine C_aload_n 37 rfl 0 dX2_init_36 rfl rfl ?_
  refine C_bipush 39 rfl (v := 12) dX2_init_37 (by decide) ?_
  obtain ⟨m7, h1, h⟩ := zbd h
  refine C_newa 41 rfl (t := 0) dX2_init_39 (by decide) rfl tb_178 (by decide) (by decide) (by decide) h1 ?_
  obtain ⟨m8, h1, h⟩ := zbd h
  refine C_putF 44 rfl dX2_init_41 ff_X2_23 ⟨_, _, rfl⟩ (by decide) (fun _ => rfl) (fun _ => rfl) h1 ?_
  refine C_aload_n 45 rfl 0 dX2_init_44 rfl rfl ?_
  refine C_bipush 47 rfl (v := 12) dX2_init_45 (by decide) ?_
  obtain ⟨m9, h1, h⟩ := zbd h
  refine C_newa 49 rfl (t := 0) dX2_init_47 (by decide) rfl tb_178 (by decide) (by decide) (by decide) h1 ?_
  obtain ⟨m10, h1, h⟩ := zbd h
  refine C_putF 52 rfl dX2_init_49 ff_X2_26 ⟨_, _, rfl⟩ (by decide) (fun _ => rfl) (fun _ => rfl) h1 ?_
  refine C_aload_n 53 rfl 0 dX2_init_52 rfl rfl ?_
  refine C_iconst 54 rfl (v := 5) dX2_init_53 (by decide) ?_
  refine C_bipush 56 rfl (v := 12) dX2_init_54 (by decide) ?_
  obtain ⟨m11, h1, h⟩ := zbd h
  refine C_mul 60 rfl dX2_init_56 tb_317 tb_178 (by decide) (by decide) (by decide) (by decide) h1 ?_
  obtain ⟨m12, h1, h⟩ := zbd h
  refine C_putF 63 rfl dX2_init_60 ff_X2_29 ⟨_, _, rfl⟩ (by decide) (fun _ => rfl) (fun _ => rfl) h1 ?_
  refine C_aload_n 64 rfl 0 dX2_init_63 rfl rfl ?_
  refine C_iconst 65 rfl (v := 5) dX2_init_64 (by decide) ?_
  obtain ⟨m13, h1, h⟩ := zbd h
  refine C_newa 67 rfl (t := 0) dX2_init_65 (by decide) rfl tb_178 (by decide) (by decide) (by decide) h1 ?_
  obtain ⟨m14, h1, h⟩ := zbd h
  refine C_putF 70 rfl dX2_init_67 ff_X2_32 ⟨_, _, rfl⟩ (by decide) (fun _ => rfl) (fun _ => rfl) h1 ?_
  refine C_aload_n 71 rfl 0 dX2_init_70 rfl rfl ?_
  refine C_iconst 72 rfl (v := 5) dX2_init_71 (by decide) ?_
  obtain ⟨m15, h1, h⟩ := zbd h
  refine C_newa 74 rfl (t := 0) dX2_init_72 (by decide) rfl tb_178 (by decide) (by decide) (by decide) h1 ?_
  obtain ⟨m16, h1, h⟩ := zbd h
  refine C_putF 77 rfl dX2_init_74 ff_X2_35 ⟨_, _, rfl⟩ (by decide) (fun _ => rfl) (fun _ => rfl) h1 ?_
  refine C_aload_n 78 rfl 0 dX2_init_77 rfl rfl ?_
  refine C_bipush 80 rfl (v := 12) dX2_init_78 (by decide) ?_
  obtain ⟨m17, h1, h⟩ := zbd h
  refine C_newa 82 rfl (t := 0) dX2_init_80 (by decide) rfl tb_178 (by decide) (by decide) (by decide) h1 ?_
  obtain ⟨m18, h1, h⟩ := zbd h
  refine C_putF 85 rfl dX2_init_82 ff_X2_38 ⟨_, _, rfl⟩ (by decide) (fun _ => rfl) (fun _ => rfl) h1 ?_
  obtain ⟨hi, h⟩ := zobd h
  simp only [Bool.and_eq_true, decide_eq_true_eq] at hi
  exact C_vret dX2_init_85 (hQ m18 (zinj h)) hi
theorem ctkX2_init {E : zE} {d : Nat} (hd : 1 ≤ d) {v0 : Nat} {cs : List zCl} {o : zCm} (h : kX2_init v0 cs = some o) : cCT E yX2_init cX2_init 1 d 38 435 v0 cs (fun m => m.1 = o.1) :=
  cCT_of (by decide) rfl (by decide) rfl (wkX2_init hd h (fun r e => by rw [e]))
