/-! the law from its entry, out of what its loop answers as a function -/
theorem lw_mem {i : Nat} {w : Cond} (h : lw_tbl[i]? = some w) : w ∈ lw_tbl := List.mem_of_getElem? h
theorem nw_L_7 : zNW R_law 7 9 13 := ⟨RX9, TX9, tyX9, rfl, uw_9, tyX9_ok, zmem (i := 135) (by decide +kernel) rfl, zmem (i := 136) (by decide +kernel) rfl, tb_114, by decide⟩
theorem nw_L_10 : zNW R_law 10 10 29 := ⟨RX10, TX10, tyX10, rfl, uw_10, tyX10_ok, zmem (i := 1090) (by decide +kernel) rfl, zmem (i := 1091) (by decide +kernel) rfl, tb_124, by decide⟩
set_option maxRecDepth 20000 in
theorem ci_L_9 : zCI R_law 9 yX9_init cX9_init 2 := ⟨zmem (i := 139) rfl rfl, tb_114, Or.inl (zmem (i := 137) (by decide +kernel) rfl), ⟨by decide, by decide, by decide +kernel⟩, zmem (i := 138) (by decide +kernel) rfl, rfl, by decide⟩
set_option maxRecDepth 20000 in
theorem ci_L_12 : zCI R_law 12 yX10_init cX10_init 1 := ⟨zmem (i := 1094) rfl rfl, tb_124, Or.inl (zmem (i := 1092) (by decide +kernel) rfl), ⟨by decide, by decide, by decide +kernel⟩, zmem (i := 1093) (by decide +kernel) rfl, rfl, by decide⟩
section LW
variable {p : Program} {e : Env} {s : State} {m : MethodId} {args : Array Value} {below : List Frame} {meth : Method} {c : Code} {H : Heap} {locs : List Loc} {ls : Array Slot} {nc ns pc : Nat} {Z : State → Prop}
theorem L_new (E : zE) {index ci N : Nat} {rest : List Value} {cs : List zCl} (hx : p.tables.exec = Jvm.exec) (hb : c.code = code) (hown : s.vm.findClass R_law = some m.cls) (hz : ∀ w ∈ zTB, w.before args s = true) (hF : cSF E s) (hW : zNW R_law index ci N) (hS : va_S (zA E) s.heap H locs) (hP : cHP E cs H) (hd : decode code pc = .ok (.new index, 3)) (hc : nc + 1 ≤ 600000 ∧ ns + N ≤ 7302250)
    (kk : ∀ H1, va_S (zA E) s.heap H1 locs → cHP E (cs ++ [bN ci N]) H1 → W p (zl E) e room_1 s m args below meth c H1 locs (nc + 1) (ns + N) Z (F0 m (pc + 3) ls (.ref (zb E + cs.length) :: rest))) : W p (zl E) e room_1 s m args below meth c H locs nc ns Z (F0 m pc ls rest) := by
  obtain ⟨Cn, T, ty, hc1, hin, hty, hcl, hinst, hini, hdf⟩ := hW
  have hKn := hF.1.1 ci _ hc1
  have hci := vwCl_lt hc1
  refine W.newcK hx hb hown (hz _ hcl) (hz _ hinst) (hz _ hini) rfl hd hc.1 hc.2 hKn.2.1 rfl fun H1 kC hkC e1 z1 o1 => ?_
  have hat : va_at (zDD E) vwCl (zb E + cs.length, ce E (ci, (N, List.replicate N none))) H1 := by
    rw [ce_obj hci]
    refine ⟨_, hc1, ?_⟩
    have h9 := u_born (o := H.size) ty hz hin hKn hkC e1 hty
    rw [hP.1] at h9
    refine h9.to (fun k hk => ?_)
    rw [hdf k hk]
    show _ = (cfl E ci N (List.replicate N none)).getD k .null
    rw [List.getD_eq_getElem?_getD, cfl_get E _ hk]
    have : (List.replicate N (none : Option Nat)).getD k none = none := by rw [List.getD_eq_getElem?_getD, List.getElem?_replicate]; split <;> rfl
    rw [this]
    rfl
  have k9 := kk H1 (cS_push hS (by omega) o1) (cHP_push hP hat z1 o1)
  show W _ _ _ _ _ _ _ _ _ _ _ _ _ _ _ (F0 m (pc + 3) ls (.ref H.size :: rest))
  rw [hP.1]
  exact k9
theorem L_ctor (E : zE) {index maxL o c2 s2 d2 : Nat} {y : MethodName} {bytes : ByteArray} {rest : List Value} {cs cs2 : List zCl} (hx : p.tables.exec = Jvm.exec) (hb : c.code = code) (hml : c.maxLocals = 4) (hown : s.vm.findClass R_law = some m.cls) (hz : ∀ w ∈ zTB, w.before args s = true) (had : cAD E) (hF : cSF E s) (cw : zCI R_law index y bytes maxL) (hM : cCT E y bytes maxL d2 c2 s2 o cs (fun m => m.1 = cs2)) (hS : va_S (zA E) s.heap H locs) (hP : cHP E cs H) (hsz : ls.size = 4) (hd : decode code pc = .ok (.invokespecial index, 3)) (hdd : d2 ≤ 100) (hc : nc + c2 ≤ 600000 ∧ ns + s2 ≤ 7302250) (h8 : (rest.map fun v => v.category).sum ≤ 8)
    (kk : ∀ H1 locs1, va_S (zA E) s.heap H1 locs1 → cHP E cs2 H1 → W p (zl E) e room_1 s m args below meth c H1 locs1 (nc + c2) (ns + s2) Z (F0 m (pc + 3) ls rest)) : W p (zl E) e room_1 s m args below meth c H locs nc ns Z (F0 m pc ls (.ref (zb E + o) :: rest)) := by
  obtain ⟨w1, w2, w3, w4, w5, w6, w7⟩ := cw
  have hpre : PreS s H (cPc E o cs) [.ref (zb E + o)] := ⟨cPc_blind, fun U hU hW => ⟨rfl, had, cSF_moved hF hW, by rw [hU]; exact hP⟩⟩
  have hrun : va_Run p (zl E) e room_1 s m args below meth c H locs nc ns c2 s2 (F0 m pc ls (.ref (zb E + o) :: rest)) rest (cQC E (fun m => m.1 = cs2) #[Value.ref (zb E + o)]) (zA E) := by
    rcases w3 with w3 | w3
    · exact va_runI (As := []) (rest := rest) (n := 0) ⟨hx, hb, hml, hown, hz⟩ hM ⟨callB_of 0 hz (zGI w1) rfl rfl rfl (hz _ w2) (hz _ w3) w4 ⟨by show d2 + 1 ≤ 2048; omega, by show 8 + (maxL + 11) + 64 * d2 ≤ 84000; omega⟩, w6, hz _ w5⟩ hpre rfl rfl hsz rfl (lv_room h8) hd hc
    · exact va_runIN (As := []) (rest := rest) (n := 0) (host := "TraitLines") ⟨hx, hb, hml, hown, hz⟩ hM ⟨va_cnB 0 hz (zGI w1) rfl rfl rfl (hF.2.1 _ w3) (hz _ w2) w4 ⟨by show d2 + 1 ≤ 2048; omega, by show 8 + (maxL + 11) + 64 * d2 ≤ 84000; omega⟩, w6, hz _ w5⟩ hpre rfl rfl hsz rfl (lv_room h8) hd hc
  intro T hT X
  obtain ⟨v, st0, t, T', L1, h0, X', hL1, e1, e2, ⟨⟨m2, hv, hq, hP2⟩, hz1, hk⟩, stp⟩ := hrun T hT X
  rw [h0] at hz1 hk
  cases hv
  have hS2 : va_S (zA E) s.heap T'.heap (locs ++ L1) := ⟨Nat.le_trans hS.1 (by rw [e1]; exact hz1), fun q h1 h2 => by rw [e1, hk q (Nat.lt_of_lt_of_le h1 hS.1) h2]; exact hS.2.1 q h1 h2, fun q hq => by
      rcases List.mem_append.mp hq with h | h
      · exact hS.2.2 q h
      · exact hL1 q h⟩
  obtain ⟨t2, a1, b1⟩ := kk T'.heap (locs ++ L1) hS2 (by rw [e1, ← hq]; exact hP2) T' rfl X'
  exact ⟨t2, stp t2 a1, b1⟩
end LW
theorem cF_eq : cF1 ++ cF2 = cF := rfl
theorem whole_of (hX2 : ∀ (E : zE) {v0 : Nat} {cs : List zCl} {o : zCm}, kX2_init v0 cs = some o → cCT E yX2_init cX2_init 1 1 38 435 v0 cs (fun m => m.1 = o.1)) (main : ∀ E : zE, zsL E ≤ 3072 → ∃ (n : Nat) (m' : zM), zloop (fL_law_L18 E) n (0, zm0) = some (.inl m'))
    {p : Program} {e : Env} {s : State} {m : MethodId} {below : List Frame} {meth : Method} {c : Code} (l : Launch) {b L : Nat} {xs : Nat → Int32} (hL : L ≤ 3072) (C0 : lw_At p s m meth c b L xs) : W p l e room_1 s m #[Value.ref b] below meth c s.heap [] 0 0 (lw_Z below #[Value.ref b] s) (entryFrame m ([Value.ref b] : List Value).toArray 4) := by
  obtain ⟨hx, hb, hr, hml, hown, hts, hX, hbl, hlocks, hgv⟩ := id C0
  have hz := zTB_of hts
  have hnA : ∀ a : Nat, a < s.heap.size → ¬ (fun q : Nat => s.heap.size ≤ q) a := fun a h q => Nat.not_le.mpr h q
  obtain ⟨D, ac, hK⟩ := env_K hts
  obtain ⟨adK, adV, hStr, hRef⟩ := env_S (A := fun q : Nat => s.heap.size ≤ q) hts hgv hnA
  obtain ⟨hZ1, fm, hZ2, hfm⟩ := env_Z (A := fun q : Nat => s.heap.size ≤ q) hts hgv hnA
  obtain ⟨E0, a1, a2, a3, a4, a5⟩ : ∃ E0 : zE, zl E0 = l ∧ zDD E0 = D ∧ cAD E0 ∧ zac E0 = ac ∧ zb E0 = s.heap.size := ⟨(l, (D, ((fun _ i => s.heap.size + i), (ac, (s.heap.size, (fm, (L, xs))))))), rfl, rfl, fun _ _ => rfl, rfl, rfl⟩
  obtain ⟨E, b1, b2, b3, b4, b5, b6, b7, b8, b9, b10, b11⟩ : ∃ E : zE, zl E = l ∧ zDD E = D ∧ (∀ k i, k < 54 → zad E k i = s.heap.size + zoff k i) ∧ zac E = ac ∧ zb E = s.heap.size ∧ zfm E = fm ∧ zsL E = L ∧ zsx E = xs ∧ zad E 60 0 = b ∧ zad E 61 = adK ∧ zad E 62 = adV :=
    ⟨(l, (D, ((fun k i => if k < 54 then s.heap.size + zoff k i else if k = 60 then b else if k = 61 then adK i else adV i), (ac, (s.heap.size, (fm, (L, xs))))))), rfl, rfl, fun k i hk => if_pos hk, rfl, rfl, rfl, rfl, rfl, rfl, rfl, rfl⟩
  subst a1
  subst a2
  subst a4
  have hF0 : cSF E0 s := by
    refine ⟨hK, ?_, va_AO.of (hts _ (lw_mem (i := 150) (by decide +kernel))), va_AO.of (hts _ (lw_mem (i := 241) (by decide +kernel))), over_moved (Vm.Alike.refl s.vm) (hts (.arrayOver (.array .int)) (lw_mem (i := 318) (by decide +kernel)))⟩
    intro q hq
    simp only [cnest, List.mem_cons, List.not_mem_nil, or_false] at hq
    rcases hq with rfl | rfl | rfl | rfl | rfl | rfl | rfl | rfl
    · exact va_Nw.of rfl (hts _ (lw_mem (i := 152) (by decide +kernel)))
    · exact va_Nw.of rfl (hts _ (lw_mem (i := 158) (by decide +kernel)))
    · exact va_Nw.of rfl (hts _ (lw_mem (i := 244) (by decide +kernel)))
    · exact va_Nw.of rfl (hts _ (lw_mem (i := 280) (by decide +kernel)))
    · exact va_Nw.of rfl (hts _ (lw_mem (i := 297) (by decide +kernel)))
    · exact va_Nw.of rfl (hts _ (lw_mem (i := 313) (by decide +kernel)))
    · exact va_Nw.of rfl (hts _ (lw_mem (i := 359) (by decide +kernel)))
    · exact va_Nw.of rfl (hts _ (lw_mem (i := 375) (by decide +kernel)))
  have hzA : zA E = fun q : Nat => s.heap.size ≤ q := by unfold zA; rw [b5]
  have hzA0 : zA E0 = zA E := by unfold zA; rw [a5, b5]
  have hSF : zSF E s s.heap := by
    refine ⟨?_, ?_, ?_, ?_, ?_, ?_, ?_, ?_, ?_⟩
    · rw [b2]
      have : ztys E = ztys E0 := by unfold ztys; rw [b4]
      rw [this]
      exact hK
    · rw [b10, b11, hzA]; exact hStr
    · rw [b10]; exact hRef
    · intro q hq
      simp only [znest, List.mem_cons, List.not_mem_nil, or_false] at hq
      rcases hq with rfl | rfl | rfl
      · exact va_Nw.of rfl (hts _ (lw_mem (i := 615) (by decide +kernel)))
      · exact va_Nw.of rfl (hts _ (lw_mem (i := 857) (by decide +kernel)))
      · exact va_Nw.of rfl (hts _ (lw_mem (i := 935) (by decide +kernel)))
    · rw [b9, b7, b8]; exact hX
    · rw [b9, b5]; exact hbl
    · rw [b5]; exact Nat.le_refl _
    · rw [hzA]; exact hZ1
    · rw [hzA, b6]; exact ⟨hZ2, hfm⟩
  have hPF : zPF E := zPF_start (fun k i hk => by rw [b3 k i hk, b5])
  have hP0 : cHP E0 [] s.heap := ⟨by rw [a5]; rfl, fun k q h => by simp [cwf] at h⟩
  have hS0 : va_S (zA E0) s.heap s.heap [] := va_S.rf
  have hl := lv_entry ([.ref b]) (n := 4) (Nat.le_of_ble_eq_true rfl)
  rw [lg_entry_eq]
  generalize (lg_sl ([.ref b]) ++ List.replicate (4 - (lg_sl ([.ref b])).length) Slot.unset).toArray = ls at hl ⊢
  have hl : lv_has ls 4 [(0, .ref b)] := hl
  refine L_new E0 hx hb hown hz hF0 nw_L_7 hS0 hP0 dL_law_0 ⟨by decide, by decide⟩ (fun H1 hS1 hP1 => ?_)
  refine lv_dup hx hb dL_law_3 rfl ?_
  refine L_ctor E0 (cs := [bN 9 13]) (cs2 := cF1) (o := 0) (d2 := 4) hx hb hml hown hz a3 hF0 ci_L_9 (ctkX9_init (Nat.le_refl 4) (hX2 E0) cF1_ok) hS1 hP1 hl.1 dL_law_4 (by decide) ⟨by decide, by decide⟩ (Nat.le_of_ble_eq_true rfl) (fun H2 locs2 hS2 hP2 => ?_)
  refine lv_astore_n (lv' := [(1, .ref (zb E0 + 0)), (0, .ref b)]) hx hb dL_law_7 rfl hl (by decide) rfl (fun ls hl => ?_)
  refine L_new E0 hx hb hown hz hF0 nw_L_10 hS2 hP2 dL_law_8 ⟨by decide, by decide⟩ (fun H3 hS3 hP3 => ?_)
  refine lv_dup hx hb dL_law_11 rfl ?_
  rw [show cF1.length = 584 from by decide +kernel]
  refine L_ctor E0 (cs := cF1 ++ [bN 10 29]) (cs2 := cF1 ++ cF2) (o := 584) (d2 := 1) hx hb hml hown hz a3 hF0 ci_L_12 (ctkX10_init (Nat.le_refl 1) cF2_ok) hS3 hP3 hl.1 dL_law_12 (by decide) ⟨by decide, by decide⟩ (Nat.le_of_ble_eq_true rfl) (fun H4 locs4 hS4 hP4 => ?_)
  refine lv_astore_n (lv' := [(2, .ref (zb E0 + 584)), (1, .ref (zb E0 + 0)), (0, .ref b)]) hx hb dL_law_15 rfl hl (by decide) rfl (fun ls hl => ?_)
  refine lv_iconst (v := 0) hx hb dL_law_16 (by decide) ?_
  refine lv_istore_n (lv' := [(3, .int 0), (2, .ref (zb E0 + 584)), (1, .ref (zb E0 + 0)), (0, .ref b)]) hx hb dL_law_17 rfl hl (by decide) rfl (fun ls hl => ?_)
  obtain ⟨n, m', hm⟩ := main E (by rw [b7]; exact hL)
  have hc : 601 ≤ 600000 ∧ 46510 ≤ 7302250 := ⟨by decide, by decide⟩
  have hend : UL E 601 46510 1311 [none, none, none, none] [] m' := by
    refine UL_iconst 1312 rfl (v := 1) dL_law_1311 (by decide) ?_
    intro p e s2 m args below meth c H locs ls C hS hP hL hst
    obtain ⟨⟨rfl, hbase⟩, C⟩ := C
    exact UL_ret dL_law_1312 hc C hS hbase
  have hw := wL_law_L18 (E := E) hc hm (fun y e => by cases e; exact hend) (fun r e => by cases e)
  have h9 := hw p e s m #[Value.ref b] below meth c H4 locs4 ls ⟨⟨by rw [b9], b5⟩, hx, hb, hr, hml, hown, hz, hlocks, hPF, hSF⟩ (by rw [← hzA0]; exact hS4) (zHP_start (E0 := E0) (by rw [b5, a5]) b2 b4 (fun k i hk => by rw [b3 k i hk, b5]) (by rw [← cF_eq]; exact hP4)) ?_ (fun v hv => by cases hv)
  · rw [b1] at h9
    exact h9
  · refine ⟨hl.1, hl.2.1, rfl, fun i v hi => ?_⟩
    match i, hi with
    | 0, hi => cases hi; exact ⟨by rw [lv_at hl 3 rfl]; show _ = some (Slot.val (Value.ref (zad E 60 0))); rw [b9], show 0 < zcnt 60 by decide⟩
    | 1, hi => cases hi; exact ⟨by rw [lv_at hl 2 rfl]; show _ = some (Slot.val (Value.ref (zad E 9 0))); rw [b3 9 0 (by decide), a5]; rfl, show 0 < zcnt 9 by decide⟩
    | 2, hi => cases hi; exact ⟨by rw [lv_at hl 1 rfl]; show _ = some (Slot.val (Value.ref (zad E 10 0))); rw [b3 10 0 (by decide), a5]; rfl, show 0 < zcnt 10 by decide⟩
    | 3, hi => cases hi; exact ⟨by rw [lv_at hl 0 rfl]; rfl, trivial⟩
    | n + 4, hi => simp at hi
