/-! V: arraycopy; the constants' texts -/
/-- n cells from place sp of one array to place dp of another -/
def zcp (m : zM) (k i sp k2 i2 dp n : Nat) : zM := (fun a b c => if a = k2 ∧ b = i2 ∧ dp ≤ c ∧ c < dp + n then m.1 k i (sp + (c - dp)) else m.1 a b c, m.2)
theorem gi_zcp (m : zM) (k i sp k2 i2 dp n a b c : Nat) : gi (zcp m k i sp k2 i2 dp n) a b c = if a = k2 ∧ b = i2 ∧ dp ≤ c ∧ c < dp + n then gi m k i (sp + (c - dp)) else gi m a b c := rfl
theorem gl_zcp (m : zM) (k i sp k2 i2 dp n c : Nat) : gl (zcp m k i sp k2 i2 dp n) c = gl m c := rfl
theorem gr_zcp (m : zM) (k i sp k2 i2 dp n a c : Nat) : gr (zcp m k i sp k2 i2 dp n) a c = gr m a c := rfl
/-- what arraycopy wants of its numbers -/
def zcin (sp dp n : Int32) (n0 n1 : Nat) : Bool := !(decide (sp < 0) || decide (dp < 0) || decide (n < 0)) && decide (sp.toNatClampNeg + n.toNatClampNeg ≤ n0) && decide (dp.toNatClampNeg + n.toNatClampNeg ≤ n1)
theorem zcin_of {sp dp n : Int32} {n0 n1 : Nat} (h : zcin sp dp n n0 n1 = true) : ¬ sp < 0 ∧ ¬ dp < 0 ∧ ¬ n < 0 ∧ sp.toNatClampNeg + n.toNatClampNeg ≤ n0 ∧ dp.toNatClampNeg + n.toNatClampNeg ≤ n1 := by
  unfold zcin at h
  simp only [Bool.and_eq_true, Bool.not_eq_true', Bool.or_eq_false_iff, decide_eq_false_iff_not, decide_eq_true_eq] at h
  exact ⟨h.1.1.1.1, h.1.1.1.2, h.1.1.2, h.1.2, h.2⟩
def zCA (own : String) (index : Nat) : Prop := Cond.methodLink own index arraycopyName ∈ zTB ∧ Cond.native arraycopyName ∈ zTB ∧ Cond.static arraycopyName ∈ zTB ∧ Cond.initialized "java/lang/System" ∈ zTB
section ZS
variable {E : zE} {own : String} {cc : ByteArray} {nL : Nat} {ret : Option FieldType} {d : Nat} {Q : Option zV → zM → Prop} {pc : Nat} {L : List (Option zV)} {st : List zV} {mm : zM}
theorem V_copy (pc' : Nat) (hp : pc + 3 = pc') {index k i k2 i2 n0 n1 : Nat} {sp dp n : Int32} (hd : decode cc pc = .ok (.invokestatic index, 3)) (cw : zCA own index) (ha0 : zat k = some (0, n0)) (ha1 : zat k2 = some (0, n1)) (hin : zcin sp dp n n0 n1 = true) (hd1 : 1 ≤ d) (h8 : (st.map (fun v => (zc E v).category)).sum ≤ 8)
    (kk : V E own cc nL ret d Q pc' L st (zcp mm k i (zn sp) k2 i2 (zn dp) (zn n))) : V E own cc nL ret d Q pc L (zI n :: zI dp :: zK k2 i2 :: zI sp :: zK k i :: st) mm := by
  subst hp
  intro p e s m args below meth c H locs ls C hS hP hL hst
  obtain ⟨hx, hb, hr, hml, hown, hts, hlk, hpf, hF⟩ := id C
  obtain ⟨w1, w2, w3, w4⟩ := cw
  obtain ⟨h1, h2, h3, h4, h5⟩ := zcin_of hin
  have hi : i < zcnt k := zst_h (zst_t (zst_t (zst_t (zst_t hst))))
  have hi2 : i2 < zcnt k2 := zst_h (zst_t (zst_t hst))
  obtain ⟨g1, g2⟩ := zat_ge ha1
  have nn : ∀ z : Int32, ¬ z < 0 → z.toInt = (z.toNatClampNeg : Int) := by
    intro z hz
    have hz0 : (0 : Int) ≤ z.toInt := by
      have := Int32.not_lt.mp hz
      simpa using Int32.le_iff_toInt_le.mp this
    show z.toInt = ((z.toInt.toNat : Nat) : Int)
    omega
  intro T hT X
  have hc0 : H[zad E k i]? = some (arrV (zac E 0) n0 (fun j => .int (gi mm k i j))) := zat_has hP ha0 hi
  have hc1 : H[zad E k2 i2]? = some (arrV (zac E 0) n1 (fun j => .int (gi mm k2 i2 j))) := zat_has hP ha1 hi2
  obtain ⟨-, k0, hk0, cm0, hkk0⟩ := (zarr_of (t := 0) hF (by decide)) n0 (fun j => .int (gi mm k i j))
  obtain ⟨-, k1, hk1, cm1, hkk1⟩ := (zarr_of (t := 0) hF (by decide)) n1 (fun j => .int (gi mm k2 i2 j))
  obtain ⟨vm', X', step⟩ := X.arraycopy hx hown (hts _ w1) (hts _ w2) (hts _ w3) (hts _ w4) (src := zad E k i) (dst := zad E k2 i2) (cs := arrV (zac E 0) n0 (fun j => .int (gi mm k i j))) (cd := arrV (zac E 0) n1 (fun j => .int (gi mm k2 i2 j))) (srcPos := sp) (destPos := dp) (n := n) (by rw [hT]; exact hc0) (by rw [hT]; exact hc1)
    (fun _ h => by cases h) (fun _ h => by cases h) (fun h => by cases h) (fun h => by cases h) hk0 hk1 hkk0 hkk1 (by simp [zty, refKind]) h1 h2 h3
    (by rw [nn sp h1, nn n h3, arrV_size]; omega)
    (by rw [nn dp h2, nn n h3, arrV_size]; omega)
    (fun vm₁ _ j hj => by
      have e : (arrV (zac E 0) n0 (fun j => Value.int (gi mm k i j))).slots.getD (sp.toNatClampNeg + j) .null = .int (gi mm k i (sp.toNatClampNeg + j)) := by
        rw [Array.getD_eq_getD_getElem?, arrV_read _ _ (by omega)]
        rfl
      refine ⟨?_, ?_⟩
      · rw [e]
        rfl
      · rw [e]
        exact trivial)
    (g := F0 m pc ls ((zI n :: zI dp :: zK k2 i2 :: zI sp :: zK k i :: st).map (zc E))) rfl (by rw [hml]; exact hL.1) (rest := st.map (zc E)) rfl (by rw [hb]; exact hd) hd1 (by
      show 2 * 0 + _ + _ ≤ 64 * d
      rw [zcat_sum]
      have hw : nativeFrameWords "java/lang/System" "arraycopy" 5 ≤ 40 := by decide
      omega)
  have e1 : copied (arrV (zac E 0) n0 (fun j => Value.int (gi mm k i j))) (arrV (zac E 0) n1 (fun j => Value.int (gi mm k2 i2 j))) sp dp n = arrV (zac E 0) n1 (fun j => .int (va_cpy (gi mm k i) (gi mm k2 i2) sp.toNatClampNeg dp.toNatClampNeg n.toNatClampNeg j)) := va_copied (fun z => .int z) (zac E 0) (zac E 0) (gi mm k i) (gi mm k2 i2) h4
  rw [e1] at X' step
  have hl : zad E k2 i2 < H.size := (Array.getElem?_eq_some_iff.mp hc1).1
  have oq : ∀ (x : Cell) (q : Nat), q ≠ zad E k2 i2 → (H.setIfInBounds (zad E k2 i2) x)[q]? = H[q]? := fun x q hq => by simp [Array.getElem?_setIfInBounds, Ne.symm hq]
  have hP2 : zHP E (zcp mm k i (zn sp) k2 i2 (zn dp) (zn n)) (H.setIfInBounds (zad E k2 i2) (arrV (zac E 0) n1 (fun j => .int (va_cpy (gi mm k i) (gi mm k2 i2) sp.toNatClampNeg dp.toNatClampNeg n.toNatClampNeg j)))) := by
    refine ⟨fun k' i' q hq hi' => ?_, fun k' i' t' n' hq hi' => ?_, fun k' k j a b => hP.2.2 k' k j a b⟩
    · have h11 := vwCl_lt hq
      have hne : zad E k' i' ≠ zad E k2 i2 := fun z => by have := (hpf.1 k' i' k2 i2 (by omega) g2 hi' hi2 z).1; omega
      refine ((hP.1 k' i' q hq hi').kept (oq _ _ hne)).to (fun j hj => ?_)
      unfold zfv
      rw [gi_zcp, gr_zcp, if_neg (by omega)]
    · obtain ⟨f1, f2⟩ := zat_ge hq
      by_cases hh : k' = k2 ∧ i' = i2
      · obtain ⟨rfl, rfl⟩ := hh
        cases ha1.symm.trans hq
        rw [Array.getElem?_setIfInBounds, if_pos rfl, if_pos hl]
        congr 2
        funext j
        show Value.int _ = Value.int _
        rw [gi_zcp]
        unfold va_cpy
        simp only [true_and]
      · have hne : zad E k' i' ≠ zad E k2 i2 := fun z => hh (hpf.1 k' i' k2 i2 f2 g2 hi' hi2 z)
        rw [oq _ _ hne, hP.2.1 k' i' t' n' hq hi']
        congr 2
        funext j
        unfold zav
        rw [gi_zcp, gl_zcp, if_neg (by rintro ⟨a, b, -⟩; exact hh ⟨a, b⟩)]
  obtain ⟨t, a1, b1⟩ := kk p e s m args below meth c _ _ ls C ⟨by simp; exact hS.1, fun q g1' g2' => by
      rw [oq _ q (fun e => g2' (by rw [e]; exact hpf.2 k2 i2 g2 hi2))]
      exact hS.2.1 q g1' g2', fun q hq => by
      rcases List.mem_append.mp hq with h | h
      · exact hS.2.2 q h
      · obtain ⟨z, -, hz⟩ := List.mem_map.mp h
        rw [← hz]
        exact hpf.2 k2 i2 g2 hi2⟩ hP2 hL (zst_t (zst_t (zst_t (zst_t (zst_t hst))))) _ (by rw [← hT]; rfl) X'
  exact ⟨t, step t a1, b1⟩
theorem V_ldcS (pc' : Nat) (hp : pc + 2 = pc') {index : Nat} {tx : String} {i : Nat} (hd : decode cc pc = .ok (.ldc index, 2)) (hq : (own, (index, (tx, i))) ∈ zstr) (hi : i < 5) (kk : V E own cc nL ret d Q pc' L (zK 61 i :: st) mm) : V E own cc nL ret d Q pc L st mm := by
  subst hp
  intro p e s m args below meth c H locs ls C hS hP hL hst
  exact va_ldcS C.1 C.2.1 C.2.2.2.2.1 (C.2.2.2.2.2.2.2.2.2.2.1 _ hq) hd (kk p e s m args below meth c H locs ls C hS hP hL (zst_c hi hst))
end ZS
