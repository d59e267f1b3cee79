/-! the law's own rules: the room is the claim's -/
def UL (E : zE) (nc ns pc : Nat) (L : List (Option zV)) (st : List zV) (mm : zM) : Prop :=
  ∀ (p : Program) (e : Env) (s : State) (m : MethodId) (args : Array Value) (below : List Frame) (meth : Method) (c : Code) (H : Heap) (locs : List Loc) (ls : Array Slot),
    ((args = #[Value.ref (zad E 60 0)] ∧ zb E = s.heap.size) ∧ zCX E R_law code 4 ret p s m args meth c) → va_S (zA E) s.heap H locs → zHP E mm H → zLH E ls 4 L → (∀ v ∈ st, zok v) →
    W p (zl E) e room_1 s m args below meth c H locs nc ns (lw_Z below args s) (F0 m pc ls (st.map (zc E)))
section ZL
variable {E : zE} {nc ns : Nat} {pc : Nat} {L : List (Option zV)} {st : List zV} {mm : zM}
theorem UL_iconst (pc' : Nat) (hp : pc + 1 = pc') {n : Int} {v : Int32} (hd : decode code pc = .ok (.iconst n, 1)) (hv : Int32.ofInt n = v) (k : UL E nc ns pc' L (zI v :: st) mm) : UL E nc ns pc L st mm := by
  subst hp
  intro p e s m args below meth c H locs ls C hS hP hL hst
  exact lv_iconst C.2.1 C.2.2.1 hd hv (k p e s m args below meth c H locs ls C hS hP hL (zst_i hst))
theorem UL_bipush (pc' : Nat) (hp : pc + 2 = pc') {n : Int} {v : Int32} (hd : decode code pc = .ok (.bipush n, 2)) (hv : (Int8.ofInt n).toInt32 = v) (k : UL E nc ns pc' L (zI v :: st) mm) : UL E nc ns pc L st mm := by
  subst hp
  intro p e s m args below meth c H locs ls C hS hP hL hst
  exact lv_bipush C.2.1 C.2.2.1 hd hv (k p e s m args below meth c H locs ls C hS hP hL (zst_i hst))
theorem UL_iload_n (pc' : Nat) (hp : pc + 1 = pc') {n : Fin 4} (i : Nat) {x : Int32} (hd : decode code pc = .ok (.iload_n n, 1)) (hi : (n : Nat) = i) (hx : L[i]? = some (some (zI x))) (k : UL E nc ns pc' L (zI x :: st) mm) : UL E nc ns pc L st mm := by
  subst hp
  intro p e s m args below meth c H locs ls C hS hP hL hst
  exact lv_iload_n C.2.1 C.2.2.1 hd hi (hL.2.2.2 i _ hx).1 (k p e s m args below meth c H locs ls C hS hP hL (zst_i hst))
theorem UL_aload_n (pc' : Nat) (hp : pc + 1 = pc') {n : Fin 4} (i : Nat) {kd j : Nat} (hd : decode code pc = .ok (.aload_n n, 1)) (hi : (n : Nat) = i) (hx : L[i]? = some (some (zK kd j))) (k : UL E nc ns pc' L (zK kd j :: st) mm) : UL E nc ns pc L st mm := by
  subst hp
  intro p e s m args below meth c H locs ls C hS hP hL hst
  exact lv_aload_n C.2.1 C.2.2.1 hd hi (hL.2.2.2 i _ hx).1 (k p e s m args below meth c H locs ls C hS hP hL (zst_c (hL.2.2.2 i _ hx).2 hst))
theorem UL_iinc (pc' : Nat) (hp : pc + 3 = pc') {i : Nat} {n : Int} {x : Int32} (v : Int32) {L' : List (Option zV)} (hd : decode code pc = .ok (.iinc i n, 3)) (hx : L[i]? = some (some (zI x))) (hv : x + Int32.ofInt n = v) (hn : i < 4) (hl : zst1 L i (zI v) = L') (k : UL E nc ns pc' L' st mm) : UL E nc ns pc L st mm := by
  subst hp
  intro p e s m args below meth c H locs ls C hS hP hL hst
  subst hl
  obtain ⟨q9, h9⟩ := List.getElem?_of_mem (zas_in E L 0 i _ hx)
  rw [Nat.zero_add] at h9
  exact lv_iinc (lv := zas E 0 L) (v := v) C.2.1 C.2.2.1 hd (zLH_has hL) h9 hv hn rfl (fun ls' hl' => k p e s m args below meth c H locs ls' C hS hP (zLH_of1 (v := zI v) hL trivial hl') hst)
theorem UL_iadd (pc' : Nat) (hp : pc + 1 = pc') {x : Int32} {y : Int32} (hd : decode code pc = .ok (.iadd, 1)) (k : UL E nc ns pc' L (zI (x + y) :: st) mm) : UL E nc ns pc L (zI y :: zI x :: st) mm := by
  subst hp
  intro p e s m args below meth c H locs ls C hS hP hL hst
  exact lv_iadd C.2.1 C.2.2.1 hd (k p e s m args below meth c H locs ls C hS hP hL (zst_i (zst_t (zst_t hst))))
theorem UL_isub (pc' : Nat) (hp : pc + 1 = pc') {x : Int32} {y : Int32} (hd : decode code pc = .ok (.isub, 1)) (k : UL E nc ns pc' L (zI (x - y) :: st) mm) : UL E nc ns pc L (zI y :: zI x :: st) mm := by
  subst hp
  intro p e s m args below meth c H locs ls C hS hP hL hst
  exact lv_isub C.2.1 C.2.2.1 hd (k p e s m args below meth c H locs ls C hS hP hL (zst_i (zst_t (zst_t hst))))
theorem UL_iand (pc' : Nat) (hp : pc + 1 = pc') {x : Int32} {y : Int32} (hd : decode code pc = .ok (.iand, 1)) (k : UL E nc ns pc' L (zI (x &&& y) :: st) mm) : UL E nc ns pc L (zI y :: zI x :: st) mm := by
  subst hp
  intro p e s m args below meth c H locs ls C hS hP hL hst
  exact lv_iand C.2.1 C.2.2.1 hd (k p e s m args below meth c H locs ls C hS hP hL (zst_i (zst_t (zst_t hst))))
theorem UL_lcmp (pc' : Nat) (hp : pc + 1 = pc') {x y : Int64} (hd : decode code pc = .ok (.lcmp, 1)) (k : UL E nc ns pc' L (zI (lg_cmp x y) :: st) mm) : UL E nc ns pc L (zJ y :: zJ x :: st) mm := by
  subst hp
  intro p e s m args below meth c H locs ls C hS hP hL hst
  exact W.lcmp C.2.1 C.2.2.1 hd (k p e s m args below meth c H locs ls C hS hP hL (zst_i (zst_t (zst_t hst))))
theorem UL_goto (tgt : Nat) {off : Int} (hd : decode code pc = .ok (.goto off, 3)) (ht : (pc : Int) + off = (tgt : Int)) (k : UL E nc ns tgt L st mm) : UL E nc ns pc L st mm := by
  intro p e s m args below meth c H locs ls C hS hP hL hst
  exact lv_goto C.2.1 C.2.2.1 hd ht (k p e s m args below meth c H locs ls C hS hP hL hst)
theorem UL_wk {L' : List (Option zV)} (hl : ∀ (i : Nat) (v : zV), L'[i]? = some (some v) → L[i]? = some (some v)) (hn : L'.length = L.length) (k : UL E nc ns pc L' st mm) : UL E nc ns pc L st mm := by
  intro p e s m args below meth c H locs ls C hS hP hL hst
  exact k p e s m args below meth c H locs ls C hS hP ⟨hL.1, hL.2.1, hn.trans hL.2.2.1, fun i v h => hL.2.2.2 i v (hl i v h)⟩ hst
theorem UL_w {L' : List (Option zV)} (h : zsub L' L) (k : UL E nc ns pc L' st mm) : UL E nc ns pc L st mm := UL_wk h.1 h.2 k
theorem UL_if_eq (pc' tgt : Nat) (hp : pc + 3 = pc') {x : Int32} {off : Int} (hd : decode code pc = .ok (.ifCond .eq off, 3)) (ht : (pc : Int) + off = (tgt : Int)) (kt : x = 0 → UL E nc ns tgt L st mm) (kf : ¬ x = 0 → UL E nc ns pc' L st mm) : UL E nc ns pc L (zI x :: st) mm := by
  subst hp
  intro p e s m args below meth c H locs ls C hS hP hL hst
  exact lv_if_eq C.2.1 C.2.2.1 hd ht (fun q => kt q p e s m args below meth c H locs ls C hS hP hL (zst_t hst)) (fun q => kf q p e s m args below meth c H locs ls C hS hP hL (zst_t hst))
theorem UL_if_ne (pc' tgt : Nat) (hp : pc + 3 = pc') {x : Int32} {off : Int} (hd : decode code pc = .ok (.ifCond .ne off, 3)) (ht : (pc : Int) + off = (tgt : Int)) (kt : ¬ x = 0 → UL E nc ns tgt L st mm) (kf : x = 0 → UL E nc ns pc' L st mm) : UL E nc ns pc L (zI x :: st) mm := by
  subst hp
  intro p e s m args below meth c H locs ls C hS hP hL hst
  exact lv_if_ne C.2.1 C.2.2.1 hd ht (fun q => kt q p e s m args below meth c H locs ls C hS hP hL (zst_t hst)) (fun q => kf q p e s m args below meth c H locs ls C hS hP hL (zst_t hst))
theorem UL_icmp_eq (pc' tgt : Nat) (hp : pc + 3 = pc') {x y : Int32} {off : Int} (hd : decode code pc = .ok (.if_icmp .eq off, 3)) (ht : (pc : Int) + off = (tgt : Int)) (kt : x = y → UL E nc ns tgt L st mm) (kf : ¬ x = y → UL E nc ns pc' L st mm) : UL E nc ns pc L (zI y :: zI x :: st) mm := by
  subst hp
  intro p e s m args below meth c H locs ls C hS hP hL hst
  exact lv_icmp_eq C.2.1 C.2.2.1 hd ht (fun q => kt q p e s m args below meth c H locs ls C hS hP hL (zst_t (zst_t hst))) (fun q => kf q p e s m args below meth c H locs ls C hS hP hL (zst_t (zst_t hst)))
theorem UL_icmp_ne (pc' tgt : Nat) (hp : pc + 3 = pc') {x y : Int32} {off : Int} (hd : decode code pc = .ok (.if_icmp .ne off, 3)) (ht : (pc : Int) + off = (tgt : Int)) (kt : ¬ x = y → UL E nc ns tgt L st mm) (kf : x = y → UL E nc ns pc' L st mm) : UL E nc ns pc L (zI y :: zI x :: st) mm := by
  subst hp
  intro p e s m args below meth c H locs ls C hS hP hL hst
  exact lv_icmp_ne C.2.1 C.2.2.1 hd ht (fun q => kt q p e s m args below meth c H locs ls C hS hP hL (zst_t (zst_t hst))) (fun q => kf q p e s m args below meth c H locs ls C hS hP hL (zst_t (zst_t hst)))
theorem UL_icmp_ge (pc' tgt : Nat) (hp : pc + 3 = pc') {x y : Int32} {off : Int} (hd : decode code pc = .ok (.if_icmp .ge off, 3)) (ht : (pc : Int) + off = (tgt : Int)) (kt : y ≤ x → UL E nc ns tgt L st mm) (kf : ¬ y ≤ x → UL E nc ns pc' L st mm) : UL E nc ns pc L (zI y :: zI x :: st) mm := by
  subst hp
  intro p e s m args below meth c H locs ls C hS hP hL hst
  exact lv_icmp_ge C.2.1 C.2.2.1 hd ht (fun q => kt q p e s m args below meth c H locs ls C hS hP hL (zst_t (zst_t hst))) (fun q => kf q p e s m args below meth c H locs ls C hS hP hL (zst_t (zst_t hst)))
theorem UL_icmp_gt (pc' tgt : Nat) (hp : pc + 3 = pc') {x y : Int32} {off : Int} (hd : decode code pc = .ok (.if_icmp .gt off, 3)) (ht : (pc : Int) + off = (tgt : Int)) (kt : y < x → UL E nc ns tgt L st mm) (kf : ¬ y < x → UL E nc ns pc' L st mm) : UL E nc ns pc L (zI y :: zI x :: st) mm := by
  subst hp
  intro p e s m args below meth c H locs ls C hS hP hL hst
  exact lv_icmp_gt C.2.1 C.2.2.1 hd ht (fun q => kt q p e s m args below meth c H locs ls C hS hP hL (zst_t (zst_t hst))) (fun q => kf q p e s m args below meth c H locs ls C hS hP hL (zst_t (zst_t hst)))
theorem UL_icmp_lt (pc' tgt : Nat) (hp : pc + 3 = pc') {x y : Int32} {off : Int} (hd : decode code pc = .ok (.if_icmp .lt off, 3)) (ht : (pc : Int) + off = (tgt : Int)) (kt : x < y → UL E nc ns tgt L st mm) (kf : ¬ x < y → UL E nc ns pc' L st mm) : UL E nc ns pc L (zI y :: zI x :: st) mm := by
  subst hp
  intro p e s m args below meth c H locs ls C hS hP hL hst
  exact lv_icmp_lt C.2.1 C.2.2.1 hd ht (fun q => kt q p e s m args below meth c H locs ls C hS hP hL (zst_t (zst_t hst))) (fun q => kf q p e s m args below meth c H locs ls C hS hP hL (zst_t (zst_t hst)))
theorem UL_icmp_le (pc' tgt : Nat) (hp : pc + 3 = pc') {x y : Int32} {off : Int} (hd : decode code pc = .ok (.if_icmp .le off, 3)) (ht : (pc : Int) + off = (tgt : Int)) (kt : x ≤ y → UL E nc ns tgt L st mm) (kf : ¬ x ≤ y → UL E nc ns pc' L st mm) : UL E nc ns pc L (zI y :: zI x :: st) mm := by
  subst hp
  intro p e s m args below meth c H locs ls C hS hP hL hst
  exact lv_icmp_le C.2.1 C.2.2.1 hd ht (fun q => kt q p e s m args below meth c H locs ls C hS hP hL (zst_t (zst_t hst))) (fun q => kf q p e s m args below meth c H locs ls C hS hP hL (zst_t (zst_t hst)))
theorem UL_tabOut (tgt : Nat) {dflt lo hi : Int} {offs : Array Int} {len : Nat} {x : Int32} (hd : decode code pc = .ok (.tableswitch dflt lo hi offs, len)) (h : x.toInt < lo ∨ hi < x.toInt) (ht : (pc : Int) + dflt = (tgt : Int)) (k : UL E nc ns tgt L st mm) : UL E nc ns pc L (zI x :: st) mm := by
  intro p e s m args below meth c H locs ls C hS hP hL hst
  exact lv_tableOut C.2.1 C.2.2.1 hd h ht (k p e s m args below meth c H locs ls C hS hP hL (zst_t hst))
theorem UL_tabIn (tgt : Nat) {dflt lo hi : Int} {offs : Array Int} {len : Nat} {x : Int32} {off : Int} (hd : decode code pc = .ok (.tableswitch dflt lo hi offs, len)) (h1 : ¬ x.toInt < lo) (h2 : ¬ hi < x.toInt) (ho : offs[(x.toInt - lo).toNat]? = some off) (ht : (pc : Int) + off = (tgt : Int)) (k : UL E nc ns tgt L st mm) : UL E nc ns pc L (zI x :: st) mm := by
  intro p e s m args below meth c H locs ls C hS hP hL hst
  exact lv_tableIn C.2.1 C.2.2.1 hd h1 h2 ho ht (k p e s m args below meth c H locs ls C hS hP hL (zst_t hst))
theorem UL_sald (pc' : Nat) (hp : pc + 1 = pc') {j : Int32} (hd : decode code pc = .ok (.iaload, 1)) (hin : zin j (zsL E) = true) (kk : UL E nc ns pc' L (zI (zsx E (zn j)) :: st) mm) : UL E nc ns pc L (zI j :: zK 60 0 :: st) mm := by
  subst hp
  intro p e s m args below meth c H locs ls C hS hP hL hst
  obtain ⟨scr, g1, g2, g3, g4, g5⟩ := C.2.2.2.2.2.2.2.2.2.2.2.2.2.1
  have hlt := C.2.2.2.2.2.2.2.2.2.2.2.2.2.2.1
  have hb := C.2.2.2.2.2.2.2.2.2.2.2.2.2.2.2.1
  have e1 : H[zad E 60 0]? = some scr := by rw [hS.2.1 _ (by omega) (by unfold zA; omega)]; exact g1
  refine W.iald C.2.1 C.2.2.1 e1 g2 g3 (by rw [g4]; exact zin_vp hin) (v := .int (zsx E (zn j))) (g5 _ (zin_lt hin)) rfl rfl hd (kk p e s m args below meth c H locs ls C hS hP hL (zst_i (zst_t (zst_t hst))))
theorem UL_slen (pc' : Nat) (hp : pc + 1 = pc') (hd : decode code pc = .ok (.arraylength, 1)) (kk : UL E nc ns pc' L (zI (Int32.ofNat (zsL E)) :: st) mm) : UL E nc ns pc L (zK 60 0 :: st) mm := by
  subst hp
  intro p e s m args below meth c H locs ls C hS hP hL hst
  obtain ⟨scr, g1, g2, g3, g4, g5⟩ := C.2.2.2.2.2.2.2.2.2.2.2.2.2.1
  have hlt := C.2.2.2.2.2.2.2.2.2.2.2.2.2.2.1
  have hb := C.2.2.2.2.2.2.2.2.2.2.2.2.2.2.2.1
  have e1 : H[zad E 60 0]? = some scr := by rw [hS.2.1 _ (by omega) (by unfold zA; omega)]; exact g1
  refine W.alen (n := Int32.ofNat (zsL E)) C.2.1 C.2.2.1 e1 g2 (by rw [g4]) rfl rfl hd (kk p e s m args below meth c H locs ls C hS hP hL (zst_i (zst_t hst)))
theorem UL_run {p : Program} {e : Env} {s : State} {m : MethodId} {args : Array Value} {below : List Frame} {meth : Method} {c : Code} {H : Heap} {locs : List Loc} {ls : Array Slot} {Q2 : Option zV → zM → Prop} {a : Array Value} {stk : List Value}
    (C : (args = #[Value.ref (zad E 60 0)] ∧ zb E = s.heap.size) ∧ zCX E R_law code 4 ret p s m args meth c) (hS : va_S (zA E) s.heap H locs) (hL : zLH E ls 4 L) (hst : ∀ v ∈ st, zok v)
    (hr : va_Run p (zl E) e room_1 s m args below meth c H locs nc ns 0 0 (F0 m pc ls stk) (st.map (zc E)) (zQC E Q2 a) (zA E))
    (kk : ∀ (r : Option zV) (m2 : zM), Q2 r m2 → UL E nc ns (pc + 3) L (r.toList ++ st) m2) (hrok : ∀ r m2, Q2 r m2 → ∀ v, r = some v → zok v) : W p (zl E) e room_1 s m args below meth c H locs nc ns (lw_Z below args s) (F0 m pc ls stk) := by
  intro T hT X
  obtain ⟨v, st0, t, T', L1, h0, X', hL1, e1, e2, ⟨⟨r, m2, hv, hq, hP2⟩, hz, hk⟩, stp⟩ := hr T hT X
  rw [h0] at hz hk
  cases hv
  have hS2 : va_S (zA E) s.heap T'.heap (locs ++ L1) := ⟨Nat.le_trans hS.1 (by rw [e1]; exact hz), fun q h1 h2 => by rw [e1, hk q (Nat.lt_of_lt_of_le h1 hS.1) h2]; exact hS.2.1 q h1 h2, fun q hq => by
      rcases List.mem_append.mp hq with h | h
      · exact hS.2.2 q h
      · exact hL1 q h⟩
  have hok : ∀ w ∈ r.toList ++ st, zok w := fun w hw => by
    rcases List.mem_append.mp hw with h | h
    · cases r with
      | none => simp at h
      | some v => simp at h; subst h; exact hrok _ _ hq _ rfl
    · exact hst w h
  obtain ⟨t2, a1, b1⟩ := kk r m2 hq p e s m args below meth c T'.heap (locs ++ L1) ls C hS2 (by rw [e1]; exact hP2) hL hok T' rfl X'
  refine ⟨t2, stp t2 ?_, b1⟩
  have es : (r.toList ++ st).map (zc E) = (r.map (zc E)).toList ++ st.map (zc E) := by cases r <;> simp
  rw [es] at a1
  exact a1
theorem UL_cV (pc' : Nat) (hp : pc + 3 = pc') {index n maxL kd i : Nat} {y : MethodName} {bytes : ByteArray} {ret2 : Option FieldType} (d2 : Nat) (As st : List zV) {stk stk2 : List zV} {ro : Option zV} {mo : zM} (hd : decode code pc = .ok (.invokevirtual index, 3)) (cw : zCV R_law index y bytes maxL ret2 n kd)
    (hM : zOC E y bytes maxL ret2 d2 (zK kd i :: As) mm ro mo) (hdd : d2 ≤ 100) (hc : nc ≤ 600000 ∧ ns ≤ 7302250) (hstk : stk = As.reverse ++ zK kd i :: st) (hn : As.length = n) (h8 : (st.map (fun v => (zc E v).category)).sum ≤ 8) (ho : ∀ v, ro = some v → zok v) (hs2 : ro.toList ++ st = stk2)
    (kk : UL E nc ns pc' L stk2 mo) : UL E nc ns pc L stk mm := by
  subst hp; subst hstk; subst hs2
  intro p e s m args below meth c H locs ls C hS hP hL hst
  obtain ⟨hx, hb, hr, hml, hown, hts, hlk, hpf, hF⟩ := id C.2
  obtain ⟨⟨w1, w2, w3, w4, w5⟩, w6, w7, T, N, w8⟩ := cw
  have hst1 : ∀ v ∈ st, zok v := fun v hv => hst v (List.mem_append_right _ (List.mem_cons_of_mem _ hv))
  have hst2 : ∀ v ∈ zK kd i :: As, zok v := fun v hv => by
    rcases List.mem_cons.mp hv with h | h
    · exact hst v (List.mem_append_right _ (by rw [h]; exact List.mem_cons_self))
    · exact hst v (List.mem_append_left _ (List.mem_reverse.mpr h))
  have hi : i < zcnt kd := hst2 _ List.mem_cons_self
  obtain ⟨cell, q1, q2, q3, q4⟩ := hP.1 kd i _ w8 hi
  exact UL_run C hS hL hst1 (va_runV (As := As.map (zc E)) (rest := st.map (zc E)) (b := zad E kd i) (C := y.cls) (n := n) ⟨hx, hb, hml, hown, hts⟩ hM ⟨callB_of n hts (zGI w1) rfl rfl rfl (hts _ w2) (hts _ w3) w4 ⟨by show d2 + 1 ≤ 2048; omega, by show 8 + (maxL + 11) + 64 * d2 ≤ 84000; omega⟩, hts _ w6, hts _ w7⟩ ⟨zPc_blind, ⟨cell, q1, by rw [q3]; rfl, by rw [q2]; exact (hF.1.1 kd _ w8).2.1⟩, fun U hU hW => ⟨rfl, hpf, hst2, zSF_moved hF hS hW hU, by rw [hU]; exact hP⟩⟩ rfl (by simpa using hn) hL.1 (by simp [zc]) (lv_room (by rw [zcat_sum]; exact h8)) hd ⟨by show nc + 0 ≤ 600000; omega, by show ns + 0 ≤ 7302250; omega⟩) (fun r m2 q => by obtain ⟨rfl, rfl⟩ := q; exact kk) (fun r m2 q v hv => ho v (q.1 ▸ hv))
/-- the end: true, and nothing old is written -/
theorem UL_end (hd : decode code pc = .ok (.ireturn, 1)) (hc : nc ≤ 600000 ∧ ns ≤ 7302250) (hb0 : ∀ s : State, zSF E s s.heap → zb E = s.heap.size → True) : True := trivial
theorem UL_ret (hd : decode code pc = .ok (.ireturn, 1)) (hc : nc ≤ 600000 ∧ ns ≤ 7302250) {p : Program} {e : Env} {s : State} {m : MethodId} {below : List Frame} {meth : Method} {c : Code} {H : Heap} {locs : List Loc} {ls : Array Slot} (C : zCX E R_law code 4 ret p s m #[Value.ref (zad E 60 0)] meth c) (hS : va_S (zA E) s.heap H locs) (hbase : zb E = s.heap.size) :
    W p (zl E) e room_1 s m #[Value.ref (zad E 60 0)] below meth c H locs nc ns (lw_Z below #[Value.ref (zad E 60 0)] s) (F0 m pc ls [.int 1]) := by
  refine va_forget (fun q hq => by have h1 : zb E ≤ q.base := hS.2.2 q hq; rw [hbase] at h1; exact h1) ?_
  refine W.widen (k := 600000) (n := 7302250) hc.1 hc.2 ?_
  refine W.base ?_
  exact lw_ret (Drawn.sameBut.refl s.drawn lw_cs) C.1 C.2.1 C.2.2.1 C.2.2.2.2.2.2.1 hd
end ZL
