def zslen (i : Nat) : Int32 := Int32.ofNat (zlen.getD i 0) >>> ((0 : Int32) &&& 31)
def zschr (i : Nat) (j : Int32) : Int32 := (((zbyt.getD i []).getD (zn j) 0 &&& 255).toUInt32 % 65536).toInt32
def zd2l (x : UInt64) : Int64 := if Op.cmpValue (FP.dcmp x x) .l = 0 then x.toInt64 else 9221120237041090560
def zn64 (r : UInt64) : Bool := decide (r &&& 0x7fffffffffffffff ≤ 0x7ff0000000000000)
theorem zn64_of {r : UInt64} (h : zn64 r = true) : vf_n64 r := show r &&& 0x7fffffffffffffff ≤ 0x7ff0000000000000 from of_decide_eq_true h
theorem zschr_n : ∀ (i j : Fin 8), ((((zbyt.getD i.1 []).getD j.1 0 &&& 255).toUInt32 % 65536).toInt32).toUInt32.toUInt16.toUInt32.toInt32 = (((zbyt.getD i.1 []).getD j.1 0 &&& 255).toUInt32 % 65536).toInt32 := by decide
theorem zlen_le (i : Nat) : zlen.getD i 0 ≤ 5 := by
  match i with
  | 0 => decide
  | 1 => decide
  | 2 => decide
  | 3 => decide
  | 4 => decide
  | n + 5 => simp [zlen]
section ZT
variable {E : zE} {own : String} {cc : ByteArray} {nL : Nat} {ret : Option FieldType} {d : Nat} {Q : Option zV → zM → Prop} {pc : Nat} {L : List (Option zV)} {st : List zV} {mm : zM}
theorem zSS {own : String} {cc : ByteArray} {nL : Nat} {ret : Option FieldType} {p : Program} {s : State} {m : MethodId} {args : Array Value} {meth : Method} {c : Code} (C : zCX E own cc nL ret p s m args meth c) : vk_S 5 zlen zbyt (zad E 61) (zad E 62) (zA E) s s.heap := C.2.2.2.2.2.2.2.2.2.1
theorem V_sgetv (pc' : Nat) (hp : pc + 3 = pc') {index i : Nat} (hd : decode cc pc = .ok (.getfield index, 3)) (hl : Cond.fieldLink own index "java/lang/String" "value" "[B" ∈ zTB) (kk : V E own cc nL ret d Q pc' L (zK 62 i :: st) mm) : V E own cc nL ret d Q pc L (zK 61 i :: st) mm := by
  subst hp
  intro p e s m args below meth c H locs ls C hS hP hL hst
  have hi : i < 5 := zst_h hst
  exact vk_getf (ref := "java/lang/String") C.1 C.2.1 ((zSS C).1 i hi).2.2.1 hS C.2.2.2.2.1 (C.2.2.2.2.2.1 _ hl) (fun _ h => h) hd (kk p e s m args below meth c H locs ls C hS hP hL (zst_c hi (zst_t hst)))
theorem V_sgetc (pc' : Nat) (hp : pc + 3 = pc') {index i : Nat} (hd : decode cc pc = .ok (.getfield index, 3)) (hl : Cond.fieldLink own index "java/lang/String" "coder" "B" ∈ zTB) (kk : V E own cc nL ret d Q pc' L (zI 0 :: st) mm) : V E own cc nL ret d Q pc L (zK 61 i :: st) mm := by
  subst hp
  intro p e s m args below meth c H locs ls C hS hP hL hst
  have hi : i < 5 := zst_h hst
  exact vk_getf (ref := "java/lang/String") C.1 C.2.1 ((zSS C).1 i hi).2.1 hS C.2.2.2.2.1 (C.2.2.2.2.2.1 _ hl) (fun _ h => h) hd (kk p e s m args below meth c H locs ls C hS hP hL (zst_i (zst_t hst)))
theorem V_gsc (pc' : Nat) (hp : pc + 3 = pc') {index : Nat} (hd : decode cc pc = .ok (.getstatic index, 3)) (hl : Cond.fieldLink own index "java/lang/String" "COMPACT_STRINGS" "Z" ∈ zTB) (kk : V E own cc nL ret d Q pc' L (zI 1 :: st) mm) : V E own cc nL ret d Q pc L st mm := by
  subst hp
  intro p e s m args below meth c H locs ls C hS hP hL hst
  exact va_gets (ref := "java/lang/String") C.1 C.2.1 C.2.2.2.2.2.2.2.2.2.2.2.2.2.2.2.1 hS C.2.2.2.2.1 (C.2.2.2.2.2.1 _ hl) (fun _ h => h) hd (kk p e s m args below meth c H locs ls C hS hP hL (zst_i hst))
theorem V_bald62 (pc' : Nat) (hp : pc + 1 = pc') {i : Nat} {j : Int32} (hd : decode cc pc = .ok (.baload, 1)) (hin : zin j (zlen.getD i 0) = true) (kk : V E own cc nL ret d Q pc' L (zI ((zbyt.getD i []).getD (zn j) 0) :: st) mm) : V E own cc nL ret d Q pc L (zI j :: zK 62 i :: st) mm := by
  subst hp
  intro p e s m args below meth c H locs ls C hS hP hL hst
  have hi : i < 5 := zst_h (zst_t hst)
  obtain ⟨cell, g1, g2, g3, g4, g5, g6, g7⟩ := ((zSS C).1 i hi).2.2.2.kept hS.2.1
  have h0 := zin_vp hin
  exact W.bald C.1 C.2.1 g1 g2 g3 (fun q => h0 (q.imp id (fun z => Nat.le_trans g4 z))) (v := .int ((zbyt.getD i []).getD (zn j) 0)) (g6 _ (zin_lt hin)) rfl rfl hd (kk p e s m args below meth c H locs ls C hS hP hL (zst_i (zst_t (zst_t hst))))
theorem V_alen62 (pc' : Nat) (hp : pc + 1 = pc') {i : Nat} (hd : decode cc pc = .ok (.arraylength, 1)) (kk : V E own cc nL ret d Q pc' L (zI (Int32.ofNat (zlen.getD i 0)) :: st) mm) : V E own cc nL ret d Q pc L (zK 62 i :: st) mm := by
  subst hp
  intro p e s m args below meth c H locs ls C hS hP hL hst
  have hi : i < 5 := zst_h hst
  obtain ⟨cell, g1, g2, g3, g4, g5, g6, g7⟩ := ((zSS C).1 i hi).2.2.2.kept hS.2.1
  exact W.alen (n := Int32.ofNat (zlen.getD i 0)) C.1 C.2.1 g1 g2 g5 rfl rfl hd (kk p e s m args below meth c H locs ls C hS hP hL (zst_i (zst_t hst)))
def zCVs (own : String) (index : Nat) (y : MethodName) (bytes : ByteArray) (maxL : Nat) (ret : Option FieldType) (n : Nat) : Prop :=
  zCB own index y bytes maxL ret n ∧ Cond.instanceMethod y ∈ zTB ∧ Cond.selects y.cls y y ∈ zTB ∧ y.cls = "java/lang/String"
theorem V_cVs (pc' : Nat) (hp : pc + 3 = pc') {index n maxL i : Nat} {y : MethodName} {bytes : ByteArray} {ret2 : Option FieldType} (d2 : Nat) (As st : List zV) {stk stk2 : List zV} {ro : Option zV} {mo : zM} (hd : decode cc pc = .ok (.invokevirtual index, 3)) (cw : zCVs own index y bytes maxL ret2 n)
    (hM : zOC E y bytes maxL ret2 d2 (zK 61 i :: As) mm ro mo) (hdd : d2 + 1 ≤ d) (hstk : stk = As.reverse ++ zK 61 i :: st) (hn : As.length = n) (h8 : (st.map (fun v => (zc E v).category)).sum ≤ 8) (ho : ∀ v, ro = some v → zok v) (hs2 : ro.toList ++ st = stk2)
    (kk : V E own cc nL ret d Q pc' L stk2 mo) : V E own cc nL ret d Q pc L stk mm := by
  subst hp; subst hstk; subst hs2
  intro p e s m args below meth c H locs ls C hS hP hL hst
  obtain ⟨hx, hb, hr, hml, hown, hts, hlk, hpf, hF⟩ := id C
  obtain ⟨⟨w1, w2, w3, w4, w5⟩, w6, w7, w8⟩ := cw
  have hst1 : ∀ v ∈ st, zok v := fun v hv => hst v (List.mem_append_right _ (List.mem_cons_of_mem _ hv))
  have hst2 : ∀ v ∈ zK 61 i :: As, zok v := fun v hv => by
    rcases List.mem_cons.mp hv with h | h
    · exact hst v (List.mem_append_right _ (by rw [h]; exact List.mem_cons_self))
    · exact hst v (List.mem_append_left _ (List.mem_reverse.mpr h))
  have hi : i < 5 := hst2 _ List.mem_cons_self
  obtain ⟨cell, q1, q2, q3⟩ := vk_recv (zSS C) hi hS
  exact zrun C hS hL hst1 (va_runV (As := As.map (zc E)) (rest := st.map (zc E)) (b := zad E 61 i) (C := y.cls) (n := n) ⟨hx, hb, hml, hown, hts⟩ hM ⟨callB_of n hts (zGI w1) rfl rfl rfl (hts _ w2) (hts _ w3) w4 ⟨by show d2 + 1 ≤ d; exact hdd, by show 8 + (maxL + 11) + 64 * d2 ≤ 64 * d; omega⟩, hts _ w6, hts _ w7⟩ ⟨zPc_blind, ⟨cell, q1, q2, by rw [w8]; exact q3⟩, fun U hU hW => ⟨rfl, hpf, hst2, zSF_moved hF hS hW hU, by rw [hU]; exact hP⟩⟩ rfl (by simpa using hn) hL.1 (by simp [zc]) (lv_room (by rw [zcat_sum]; exact h8)) hd ⟨Nat.le_refl _, Nat.le_refl _⟩) (fun r m2 q => by obtain ⟨rfl, rfl⟩ := q; exact kk) (fun r m2 q v hv => ho v (q.1 ▸ hv))
end ZT
theorem ctJ0_coder {E : zE} {d i : Nat} {mm : zM} : zOC E yJ0_coder_7d493 cJ0_coder_7d493 1 (some .byte) d [zK 61 i] mm (some (zI 0)) mm := by
  refine zCT_of (by decide) (Nat.le_of_ble_eq_true rfl) (zk_k zk_0) rfl ?_
  refine V_gsc 3 rfl dJ0_coder_7d493_0 tb_504 ?_
  refine V_if_eq 6 13 rfl dJ0_coder_7d493_3 (by decide) (fun c => absurd c (by decide)) (fun c => ?_)
  refine V_aload_n 7 rfl 0 dJ0_coder_7d493_6 rfl rfl ?_
  refine V_sgetc 10 rfl dJ0_coder_7d493_7 tb_1623 ?_
  refine V_goto 14 dJ0_coder_7d493_10 (by decide) ?_
  exact V_zret dJ0_coder_7d493_14 rfl rfl ⟨rfl, rfl⟩
theorem ctJ0_isLatin1 {E : zE} {d i : Nat} {mm : zM} : zOC E yJ0_isLatin1_aae02 cJ0_isLatin1_aae02 1 (some .boolean) d [zK 61 i] mm (some (zI 1)) mm := by
  refine zCT_of (by decide) (Nat.le_of_ble_eq_true rfl) (zk_k zk_0) rfl ?_
  refine V_gsc 3 rfl dJ0_isLatin1_aae02_0 tb_504 ?_
  refine V_if_eq 6 17 rfl dJ0_isLatin1_aae02_3 (by decide) (fun c => absurd c (by decide)) (fun c => ?_)
  refine V_aload_n 7 rfl 0 dJ0_isLatin1_aae02_6 rfl rfl ?_
  refine V_sgetc 10 rfl dJ0_isLatin1_aae02_7 tb_1623 ?_
  refine V_if_ne 13 17 rfl dJ0_isLatin1_aae02_10 (by decide) (fun c => absurd rfl c) (fun c => ?_)
  refine V_iconst 14 rfl (v := 1) dJ0_isLatin1_aae02_13 (by decide) ?_
  refine V_goto 18 dJ0_isLatin1_aae02_14 (by decide) ?_
  exact V_zret dJ0_isLatin1_aae02_18 rfl rfl ⟨rfl, rfl⟩
theorem cvs_335 : zCVs RJ0 335 yJ0_coder_7d493 cJ0_coder_7d493 1 (some .byte) 0 := ⟨⟨tb_503, tb_126, tb_500, ⟨by decide, by decide, by decide +kernel⟩, by decide⟩, tb_501, tb_502, rfl⟩
theorem cvs_492 : zCVs RJ0 492 yJ0_isLatin1_aae02 cJ0_isLatin1_aae02 1 (some .boolean) 0 := ⟨⟨tb_513, tb_126, tb_510, ⟨by decide, by decide, by decide +kernel⟩, by decide⟩, tb_511, tb_512, rfl⟩
theorem ctJ0_length {E : zE} {d i : Nat} (hd : 1 ≤ d) {mm : zM} : zOC E yJ0_length_8abf5 cJ0_length_8abf5 1 (some .int) d [zK 61 i] mm (some (zI (zslen i))) mm := by
  refine zCT_of (by decide) (Nat.le_of_ble_eq_true rfl) (zk_k zk_0) rfl ?_
  refine V_aload_n 1 rfl 0 dJ0_length_8abf5_0 rfl rfl ?_
  refine V_sgetv 4 rfl dJ0_length_8abf5_1 tb_1622 ?_
  refine V_alen62 5 rfl dJ0_length_8abf5_4 ?_
  refine V_aload_n 6 rfl 0 dJ0_length_8abf5_5 rfl rfl ?_
  refine V_cVs 9 rfl 0 [] [zI (Int32.ofNat (zlen.getD i 0))] dJ0_length_8abf5_6 cvs_335 ctJ0_coder hd rfl rfl (Nat.le_of_ble_eq_true rfl) zoki rfl ?_
  refine V_ishr 10 rfl dJ0_length_8abf5_9 ?_
  exact V_iret dJ0_length_8abf5_10 rfl ⟨rfl, rfl⟩
/-- Preconditions.checkIndex, where it does not throw -/
theorem zpc_met {E : zE} {d : Nat} {i n : Int32} {fm : Value} (hfm : fm.category = 1) (h0 : ¬ i < 0) (h1 : i < n) : Met (zl E) yJ3_checkIndex_8e157 (Cond.code yJ3_checkIndex_8e157 cJ3_checkIndex_8e157 3 (some .int) :: zTB) (zrm d) (fun a _ => a = [Value.int i, .int n, fm].toArray) (fun _ st oc t => oc = .returned (some (.int i)) ∧ t.heap = st.heap) 0 0 (fun _ => False) := by
  refine Met.ofW (cc := cJ3_checkIndex_8e157) (maxL := 3) (ret := some .int) (by decide) rfl ?_
  intro p e s m args below meth c s₁ B hml hv
  subst hv
  have hx := B.exec
  have hb := B.bytes
  have hr := B.returns
  have hlocks := B.notSynchronized
  have h3 : (lg_sl [Value.int i, .int n, fm]).length = 3 := by cases fm <;> first | rfl | (simp [Value.category] at hfm)
  have hl := lv_entry ([.int i, .int n, fm]) (n := 3) (by rw [h3]; exact Nat.le_refl _)
  rw [lg_entry_eq]
  generalize (lg_sl ([.int i, .int n, fm]) ++ List.replicate (3 - (lg_sl ([.int i, .int n, fm])).length) Slot.unset).toArray = ls at hl ⊢
  have hl : lv_has ls 3 [(0, .int i), (1, .int n), (2, fm)] := hl
  refine lv_iload_n hx hb dJ3_checkIndex_8e157_0 rfl (lv_at hl 0 rfl) ?_
  refine lv_if_lt (tgt := 9) hx hb dJ3_checkIndex_8e157_1 (by decide) (fun q => absurd q h0) (fun _ => ?_)
  refine lv_iload_n hx hb dJ3_checkIndex_8e157_4 rfl (lv_at hl 0 rfl) ?_
  refine lv_iload_n hx hb dJ3_checkIndex_8e157_5 rfl (lv_at hl 1 rfl) ?_
  refine lv_icmp_lt (tgt := 16) hx hb dJ3_checkIndex_8e157_6 (by decide) (fun _ => ?_) (fun q => absurd h1 q)
  refine lv_iload_n hx hb dJ3_checkIndex_8e157_16 rfl (lv_at hl 0 rfl) ?_
  exact W.iret hx hb hr (fun t ht hW => ⟨rfl, ht⟩) (fun q hq => by cases hq) dJ3_checkIndex_8e157_17
theorem ctJ0_checkIndex {E : zE} {d : Nat} (hd : 1 ≤ d) {i n : Int32} {mm : zM} (h0 : ¬ i < 0) (h1 : i < n) : zOC E yJ0_checkIndex_df160 cJ0_checkIndex_df160 2 none d [zI i, zI n] mm none mm := by
  refine zCT_of (by decide) (Nat.le_of_ble_eq_true rfl) (zk_i (zk_i zk_0)) rfl ?_
  refine V_iload_n 1 rfl 0 dJ0_checkIndex_df160_0 rfl rfl ?_
  refine V_iload_n 2 rfl 1 dJ0_checkIndex_df160_1 rfl rfl ?_
  intro p e s m args below meth c H locs ls C hS hP hL hst
  obtain ⟨hx, hb, hr, hml, hown, hts, hlk, hpf, hF⟩ := id C
  have hfm := hF.2.2.2.2.2.2.2.2.2
  refine va_gets (ref := "jdk/internal/util/Preconditions") hx hb hF.2.2.2.2.2.2.2.2.1 hS hown (hts _ tb_520) (fun _ h => h) dJ0_checkIndex_df160_2 ?_
  have hrun := va_runS (H := H) (locs := locs) (cells := 0) (slots := 0) (As := [.int i, .int n, zfm E]) (rest := []) (n := 3) (g := F0 m 5 ls [zfm E, .int n, .int i]) (e := e) (below := below) (meth := meth) (R := zrm d) ⟨hx, hb, hml, hown, hts⟩ (zpc_met (E := E) (d := 0) hfm h0 h1) ⟨callB_of 3 hts (zGI tb_524) rfl rfl rfl (hts _ tb_128) (hts _ tb_522) ⟨by decide, by decide, by decide +kernel⟩ ⟨by show 0 + 1 ≤ d; exact hd, by show 8 + (3 + 11) + 64 * 0 ≤ 64 * d; omega⟩, hts _ tb_523⟩ ⟨fun _ _ _ _ h => h, fun U hU hW => rfl⟩ rfl rfl hL.1 rfl (lv_room (Nat.le_of_ble_eq_true rfl)) dJ0_checkIndex_df160_5 ⟨Nat.le_refl _, Nat.le_refl _⟩
  intro T hT X
  obtain ⟨v, st0, t, T', L1, g0, X', hL1, e1, e2, ⟨hv, hh⟩, stp⟩ := hrun T hT X
  cases hv
  have hTh : T'.heap = H := by rw [e1, hh, g0]
  have X2 := Stand.forget (locs := locs) X' (fun q h => (hL1 q h).elim)
  have K : W p (zl E) e (zrm d) s m args below meth c H locs 0 0 (MQ below (zQC E (fun r m2 => r = none ∧ m2 = mm)) args s 0 0 (zA E)) (F0 m 8 ls [.int i]) := by
    refine lv_pop hx hb dJ0_checkIndex_df160_8 rfl ?_
    exact W.vret hx hb hr (fun t ht hW => ⟨⟨none, mm, rfl, ⟨rfl, rfl⟩, by rw [ht]; exact hP⟩, hS.F ht⟩) hS.2.2 dJ0_checkIndex_df160_9 hlk
  obtain ⟨t2, a1, b1⟩ := K T' hTh X2
  exact ⟨t2, stp t2 a1, b1⟩
theorem zlt_of_nat {j : Int32} {n : Nat} (h0 : ¬ j < 0) (hlt : j.toNatClampNeg < n) (hn : n < 2 ^ 31) : j < Int32.ofNat n := by
  have h1 : (0 : Int) ≤ j.toInt := by
    have := Int32.not_lt.mp h0
    simpa using Int32.le_iff_toInt_le.mp this
  rw [Int32.lt_iff_toInt_lt, Int32.toInt_ofNat_of_lt (by omega)]
  have : j.toInt.toNat < n := hlt
  omega
theorem zschr_nar {i : Nat} {j : Int32} (hj : j.toNatClampNeg < 8) : narrow .char (.int (zschr i j)) = .int (zschr i j) := by
  unfold zschr
  by_cases hi : i < 8
  · exact congrArg Value.int (zschr_n ⟨i, hi⟩ ⟨j.toNatClampNeg, hj⟩)
  · have e : (zbyt.getD i []) = [] := by simp [zbyt, List.getD, show ¬ i < 5 by omega]
    rw [e, List.getD_nil]
    decide
theorem ctJ1_charAt {E : zE} {d i : Nat} (hd : 2 ≤ d) {j : Int32} {mm : zM} (hin : zin j (zlen.getD i 0) = true) : zOC E yJ1_charAt_3b067 cJ1_charAt_3b067 2 (some .char) d [zK 62 i, zI j] mm (some (zI (zschr i j))) mm := by
  have hlt := zin_lt hin
  have hvp := zin_vp hin
  have h5 := zlen_le i
  refine zCT_of (by decide) (Nat.le_of_ble_eq_true rfl) (zk_k (zk_i zk_0)) rfl ?_
  refine V_iload_n 1 rfl 1 dJ1_charAt_3b067_0 rfl rfl ?_
  refine V_aload_n 2 rfl 0 dJ1_charAt_3b067_1 rfl rfl ?_
  refine V_alen62 3 rfl dJ1_charAt_3b067_2 ?_
  refine V_cS 6 rfl 1 [zI j, zI (Int32.ofNat (zlen.getD i 0))] [] dJ1_charAt_3b067_3 cs_J1_9 (ctJ0_checkIndex (Nat.le_refl 1) (fun q => hvp (Or.inl q)) (zlt_of_nat (fun q => hvp (Or.inl q)) hlt (by omega))) hd rfl rfl (Nat.le_of_ble_eq_true rfl) zokn rfl ?_
  refine V_aload_n 7 rfl 0 dJ1_charAt_3b067_6 rfl rfl ?_
  refine V_iload_n 8 rfl 1 dJ1_charAt_3b067_7 rfl rfl ?_
  refine V_bald62 9 rfl dJ1_charAt_3b067_8 hin ?_
  refine V_sipush 12 rfl (v := 255) dJ1_charAt_3b067_9 (by decide) ?_
  refine V_iand 13 rfl dJ1_charAt_3b067_12 ?_
  refine V_i2c 14 rfl dJ1_charAt_3b067_13 ?_
  exact V_zret dJ1_charAt_3b067_14 rfl (zschr_nar (by omega)) ⟨rfl, rfl⟩
theorem ctJ0_charAt {E : zE} {d i : Nat} (hd : 3 ≤ d) {j : Int32} {mm : zM} (hin : zin j (zlen.getD i 0) = true) : zOC E yJ0_charAt_5068e cJ0_charAt_5068e 2 (some .char) d [zK 61 i, zI j] mm (some (zI (zschr i j))) mm := by
  have hlt := zin_lt hin
  have h5 := zlen_le i
  refine zCT_of (by decide) (Nat.le_of_ble_eq_true rfl) (zk_k (zk_i zk_0)) rfl ?_
  refine V_aload_n 1 rfl 0 dJ0_charAt_5068e_0 rfl rfl ?_
  refine V_cVs 4 rfl 0 [] [] dJ0_charAt_5068e_1 cvs_492 ctJ0_isLatin1 (Nat.le_trans (by decide) hd) rfl rfl (Nat.le_of_ble_eq_true rfl) zoki rfl ?_
  refine V_if_eq 7 16 rfl dJ0_charAt_5068e_4 (by decide) (fun c => absurd c (by decide)) (fun c => ?_)
  refine V_aload_n 8 rfl 0 dJ0_charAt_5068e_7 rfl rfl ?_
  refine V_sgetv 11 rfl dJ0_charAt_5068e_8 tb_1622 ?_
  refine V_iload_n 12 rfl 1 dJ0_charAt_5068e_11 rfl rfl ?_
  refine V_cS 15 rfl 2 [zK 62 i, zI j] [] dJ0_charAt_5068e_12 cs_J0_495 (ctJ1_charAt (Nat.le_refl 2) hin) hd rfl rfl (Nat.le_of_ble_eq_true rfl) zoki rfl ?_
  exact V_zret dJ0_charAt_5068e_15 rfl (zschr_nar (by omega)) ⟨rfl, rfl⟩
section ZU
variable {E : zE} {own : String} {cc : ByteArray} {nL : Nat} {ret : Option FieldType} {d : Nat} {Q : Option zV → zM → Prop} {pc : Nat} {L : List (Option zV)} {st : List zV} {mm : zM}
theorem V_strlen (pc' : Nat) (hp : pc + 3 = pc') {index i : Nat} (hd : decode cc pc = .ok (.invokevirtual index, 3)) (hl : Cond.methodLink own index yJ0_length_8abf5 ∈ zTB) (hdd : 4 ≤ d) (h8 : (st.map (fun v => (zc E v).category)).sum ≤ 8) (kk : V E own cc nL ret d Q pc' L (zI (zslen i) :: st) mm) : V E own cc nL ret d Q pc L (zK 61 i :: st) mm :=
  V_cVs pc' hp 1 [] st hd ⟨⟨tb_499, tb_126, hl, ⟨by decide, by decide, by decide +kernel⟩, by decide⟩, tb_497, tb_498, rfl⟩ (ctJ0_length (Nat.le_refl 1)) (by omega) rfl rfl h8 zoki rfl kk
theorem V_strchr (pc' : Nat) (hp : pc + 3 = pc') {index i : Nat} {j : Int32} (hd : decode cc pc = .ok (.invokevirtual index, 3)) (hl : Cond.methodLink own index yJ0_charAt_5068e ∈ zTB) (hin : zin j (zlen.getD i 0) = true) (hdd : 6 ≤ d) (h8 : (st.map (fun v => (zc E v).category)).sum ≤ 8) (kk : V E own cc nL ret d Q pc' L (zI (zschr i j) :: st) mm) : V E own cc nL ret d Q pc L (zI j :: zK 61 i :: st) mm :=
  V_cVs pc' hp (n := 1) 3 [zI j] st hd ⟨⟨tb_509, tb_126, hl, ⟨by decide, by decide, by decide +kernel⟩, by decide⟩, tb_507, tb_508, rfl⟩ (ctJ0_charAt (Nat.le_refl 3) hin) (by omega) rfl rfl h8 zoki rfl kk
theorem V_dcmpl (pc' : Nat) (hp : pc + 1 = pc') {x y : UInt64} {op : CmpOp} (hd : decode cc pc = .ok (.dcmp op, 1)) (k : V E own cc nL ret d Q pc' L (zI (Op.cmpValue (FP.dcmp x y) op) :: st) mm) : V E own cc nL ret d Q pc L (zD y :: zD x :: st) mm := by
  subst hp
  intro p e s m args below meth c H locs ls C hS hP hL hst
  exact lv_dcmp C.1 C.2.1 hd (k p e s m args below meth c H locs ls C hS hP hL (zst_i (zst_t (zst_t hst))))
end ZU
theorem zCT_ofD {E : zE} {y : MethodName} {cc : ByteArray} {d : Nat} {ret : Option FieldType} {x : UInt64} {mm : zM} {Q : Option zV → zM → Prop} (hy : plainName y.cls = true) (h : V E y.cls cc 2 ret d Q 0 [some (zD x), none] [] mm) : zCT E y cc 2 ret d [zD x] mm Q := by
  refine Met.ofW (cc := cc) (maxL := 2) (ret := ret) hy rfl ?_
  intro p e s m args below meth c s₁ B hml hv
  obtain ⟨rfl, hpf, hok, hF, hP⟩ := hv
  have hts := atoms_spec (ws := Cond.code y cc 2 ret :: zTB) B.pre
  have hown : s.vm.findClass y.cls = some m.cls := findClass_of_methodNamed B.named
  have hl := lv_entry ([.double x]) (n := 2) (Nat.le_of_ble_eq_true rfl)
  show W _ _ _ _ _ _ _ _ _ _ _ _ _ _ _ (entryFrame m ([Value.double x] : List Value).toArray 2)
  rw [lg_entry_eq]
  generalize (lg_sl ([.double x]) ++ List.replicate (2 - (lg_sl ([.double x])).length) Slot.unset).toArray = ls at hl ⊢
  have hl : lv_has ls 2 [(0, .double x)] := hl
  refine h p e s m _ below meth c s.heap [] ls ⟨B.exec, B.bytes, B.returns, hml, hown, fun w hw => hts w (List.mem_cons_of_mem _ hw), B.notSynchronized, hpf, hF⟩ va_S.rf hP ⟨hl.1, hl.2.1, rfl, fun i v hi => ?_⟩ (fun v hv => by cases hv)
  match i, hi with
  | 0, hi => cases hi; exact ⟨lv_at hl 0 rfl, trivial⟩
  | 1, hi => cases hi
  | n + 2, hi => simp at hi
def zisn (x : UInt64) : Int32 := if Op.cmpValue (FP.dcmp x x) .l = 0 then 0 else 1
theorem ctJx_isNaN {E : zE} {d : Nat} {x : UInt64} {mm : zM} : zOC E yJxe99ae_isNaN_b9ae7 cJxe99ae_isNaN_b9ae7 2 (some .boolean) d [zD x] mm (some (zI (zisn x))) mm := by
  refine zCT_ofD (by decide) ?_
  refine V_dload_n 1 rfl 0 dJxe99ae_isNaN_b9ae7_0 rfl rfl ?_
  refine V_dload_n 2 rfl 0 dJxe99ae_isNaN_b9ae7_1 rfl rfl ?_
  refine V_dcmpl 3 rfl dJxe99ae_isNaN_b9ae7_2 ?_
  refine V_if_eq 6 10 rfl dJxe99ae_isNaN_b9ae7_3 (by decide) (fun c => ?_) (fun c => ?_)
  · refine V_iconst 11 rfl (v := 0) dJxe99ae_isNaN_b9ae7_10 (by decide) ?_
    exact V_zret dJxe99ae_isNaN_b9ae7_11 rfl rfl ⟨by unfold zisn; rw [if_pos c], rfl⟩
  · refine V_iconst 7 rfl (v := 1) dJxe99ae_isNaN_b9ae7_6 (by decide) ?_
    refine V_goto 11 dJxe99ae_isNaN_b9ae7_7 (by decide) ?_
    exact V_zret dJxe99ae_isNaN_b9ae7_11 rfl rfl ⟨by unfold zisn; rw [if_neg c], rfl⟩
theorem ctJx_d2l {E : zE} {d : Nat} (hd : 1 ≤ d) {x : UInt64} {mm : zM} : zOC E yJxe99ae_doubleToLongBits_ccdee cJxe99ae_doubleToLongBits_ccdee 2 (some .long) d [zD x] mm (some (zJ (zd2l x))) mm := by
  refine zCT_ofD (by decide) ?_
  refine V_dload_n 1 rfl 0 dJxe99ae_doubleToLongBits_ccdee_0 rfl rfl ?_
  refine V_cS 4 rfl 0 [zD x] [] dJxe99ae_doubleToLongBits_ccdee_1 cs_Jxe99ae_122 ctJx_isNaN hd rfl rfl (Nat.le_of_ble_eq_true rfl) zoki rfl ?_
  refine V_if_ne 7 12 rfl dJxe99ae_doubleToLongBits_ccdee_4 (by decide) (fun c => ?_) (fun c => ?_)
  · refine V_ldc2 15 rfl (v := 9221120237041090560) dJxe99ae_doubleToLongBits_ccdee_12 tb_1597 ?_
    refine V_lret dJxe99ae_doubleToLongBits_ccdee_15 rfl ⟨?_, rfl⟩
    unfold zisn at c
    unfold zd2l
    split at c
    · exact absurd rfl c
    · rw [if_neg (by assumption)]
  · refine V_dload_n 8 rfl 0 dJxe99ae_doubleToLongBits_ccdee_7 rfl rfl ?_
    intro p e s m args below meth c2 H locs ls C hS hP hL hst
    refine vn_d2l C.1 C.2.1 (C.2.2.2.1.trans hL.1.symm) C.2.2.2.2.1 (C.2.2.2.2.2.1 _ tb_1594) (C.2.2.2.2.2.1 _ tb_1596) (C.2.2.2.2.2.1 _ tb_1595) (C.2.2.2.2.2.1 _ tb_134) hd (by show (0 : Nat) + 15 ≤ 64 * d; omega) dJxe99ae_doubleToLongBits_ccdee_8 ?_
    refine (V_lret (E := E) (own := RJxe99ae) (L := [some (zD x), none]) (nL := 2) (mm := mm) (d := d) (Q := fun r m2 => r = some (zJ (zd2l x)) ∧ m2 = mm) (x := x.toInt64) dJxe99ae_doubleToLongBits_ccdee_11 rfl ⟨?_, rfl⟩) p e s m args below meth c2 H locs ls C hS hP hL (fun v hv => by
      rw [List.mem_singleton.mp hv]; trivial)
    unfold zisn at c
    unfold zd2l
    split at c
    · rw [if_pos (by assumption)]
    · exact absurd c (by decide)
section ZW
variable {E : zE} {own : String} {cc : ByteArray} {nL : Nat} {ret : Option FieldType} {d : Nat} {Q : Option zV → zM → Prop} {pc : Nat} {L : List (Option zV)} {st : List zV} {mm : zM}
theorem V_d2l (pc' : Nat) (hp : pc + 3 = pc') {index : Nat} {x : UInt64} (hd : decode cc pc = .ok (.invokestatic index, 3)) (hl : Cond.methodLink own index yJxe99ae_doubleToLongBits_ccdee ∈ zTB) (hdd : 4 ≤ d) (h8 : (st.map (fun v => (zc E v).category)).sum ≤ 8) (kk : V E own cc nL ret d Q pc' L (zJ (zd2l x) :: st) mm) : V E own cc nL ret d Q pc L (zD x :: st) mm :=
  V_cS pc' hp (n := 1) 1 [zD x] st hd ⟨⟨tb_1590, tb_134, hl, ⟨by decide, by decide, by decide +kernel⟩, by decide⟩, tb_1589⟩ (ctJx_d2l (Nat.le_refl 1)) (by omega) rfl rfl h8 zokj rfl kk
end ZW
section ZX
variable {E : zE} {own : String} {cc : ByteArray} {nL : Nat} {ret : Option FieldType} {d : Nat} {Q : Option zV → zM → Prop} {pc : Nat} {L : List (Option zV)} {st : List zV} {mm : zM}
theorem V_mmax (pc' : Nat) (hp : pc + 3 = pc') {index : Nat} {x y : Int32} (hd : decode cc pc = .ok (.invokestatic index, 3)) (hl : Cond.methodLink own index Lib.Math.max.name ∈ zTB) (hdd : 1 ≤ d) (h8 : (st.map (fun v => (zc E v).category)).sum ≤ 8) (kk : V E own cc nL ret d Q pc' L (zI (if x < y then y else x) :: st) mm) : V E own cc nL ret d Q pc L (zI y :: zI x :: st) mm := by
  subst hp
  intro p e s m args below meth c H locs ls C hS hP hL hst
  exact va_mmax C.1 C.2.1 (C.2.2.2.1.trans hL.1.symm) C.2.2.2.2.1 (C.2.2.2.2.2.1 _ hl) (C.2.2.2.2.2.1 _ tb_1008) (C.2.2.2.2.2.1 _ tb_125) (C.2.2.2.2.2.1 _ tb_1009) hdd (by rw [zcat_sum]; show _ ≤ 64 * d; omega) (Nat.le_refl _) (Nat.le_refl _) hd (kk p e s m args below meth c H locs ls C hS hP hL (zst_i (zst_t (zst_t hst))))
theorem V_mmin (pc' : Nat) (hp : pc + 3 = pc') {index : Nat} {x y : Int32} (hd : decode cc pc = .ok (.invokestatic index, 3)) (hl : Cond.methodLink own index Lib.Math.min.name ∈ zTB) (hdd : 1 ≤ d) (h8 : (st.map (fun v => (zc E v).category)).sum ≤ 8) (kk : V E own cc nL ret d Q pc' L (zI (if y < x then y else x) :: st) mm) : V E own cc nL ret d Q pc L (zI y :: zI x :: st) mm := by
  subst hp
  intro p e s m args below meth c H locs ls C hS hP hL hst
  exact va_mmin C.1 C.2.1 (C.2.2.2.1.trans hL.1.symm) C.2.2.2.2.1 (C.2.2.2.2.2.1 _ hl) (C.2.2.2.2.2.1 _ tb_481) (C.2.2.2.2.2.1 _ tb_125) (C.2.2.2.2.2.1 _ tb_482) hdd (by rw [zcat_sum]; show _ ≤ 64 * d; omega) (Nat.le_refl _) (Nat.le_refl _) hd (kk p e s m args below meth c H locs ls C hS hP hL (zst_i (zst_t (zst_t hst))))
end ZX
