/-! V: arrays, returns -/
section ZA
variable {E : zE} {own : String} {cc : ByteArray} {nL : Nat} {ret : Option FieldType} {d : Nat} {Q : Option zV → zM → Prop} {pc : Nat} {L : List (Option zV)} {st : List zV} {mm : zM}
theorem zat_has {kd t n i : Nat} {H : Heap} (hP : zHP E mm H) (h : zat kd = some (t, n)) (hi : i < zcnt kd) : H[zad E kd i]? = some (arrV (zac E t) n (zav E mm t kd i)) := hP.2.1 kd i t n h hi
theorem zarr_of {U : State} {H : Heap} (hF : zSF E U H) {t : Nat} (ht : t < 7) : ArrOfT U (zac E t) (zty t) := by
  have h := hF.1.2
  match t, ht with
  | 0, _ => exact (h 0 _ rfl).1
  | 1, _ => exact (h 1 _ rfl).1
  | 2, _ => exact (h 2 _ rfl).1
  | 3, _ => exact (h 3 _ rfl).1
  | 4, _ => exact (h 4 _ rfl).1
  | 5, _ => exact (h 5 _ rfl).1
  | 6, _ => exact (h 6 _ rfl).1
theorem V_iald (pc' : Nat) (hp : pc + 1 = pc') {kd i n : Nat} {j : Int32} (hd : decode cc pc = .ok (.iaload, 1)) (ha : zat kd = some (0, n)) (hin : zin j n = true) (kk : V E own cc nL ret d Q pc' L (zI (gi mm kd i (zn j)) :: st) mm) : V E own cc nL ret d Q pc L (zI j :: zK kd i :: st) mm := by
  subst hp
  intro p e s m args below meth c H locs ls C hS hP hL hst
  have hi : i < zcnt kd := zst_h (zst_t hst)
  refine W.iald C.1 C.2.1 (zat_has hP ha hi) (zarr_of (t := 0) C.2.2.2.2.2.2.2.2 (by decide) _ _) (fun q => by cases q) (by rw [arrV_size]; exact zin_vp hin) (v := .int (gi mm kd i (zn j))) (by rw [arrV_read _ _ (zin_lt hin)]; rfl) rfl rfl hd (kk p e s m args below meth c H locs ls C hS hP hL (zst_i (zst_t (zst_t hst))))
theorem V_bald (pc' : Nat) (hp : pc + 1 = pc') {kd i n : Nat} {j : Int32} (hd : decode cc pc = .ok (.baload, 1)) (ha : zat kd = some (1, n)) (hin : zin j n = true) (kk : V E own cc nL ret d Q pc' L (zI (gi mm kd i (zn j)) :: st) mm) : V E own cc nL ret d Q pc L (zI j :: zK kd i :: st) mm := by
  subst hp
  intro p e s m args below meth c H locs ls C hS hP hL hst
  have hi : i < zcnt kd := zst_h (zst_t hst)
  refine W.bald C.1 C.2.1 (zat_has hP ha hi) (zarr_of (t := 1) C.2.2.2.2.2.2.2.2 (by decide) _ _) (fun q => by cases q) (by rw [arrV_size]; exact zin_vp hin) (v := .int (gi mm kd i (zn j))) (by rw [arrV_read _ _ (zin_lt hin)]; rfl) rfl rfl hd (kk p e s m args below meth c H locs ls C hS hP hL (zst_i (zst_t (zst_t hst))))
theorem V_zald (pc' : Nat) (hp : pc + 1 = pc') {kd i n : Nat} {j : Int32} (hd : decode cc pc = .ok (.baload, 1)) (ha : zat kd = some (2, n)) (hin : zin j n = true) (kk : V E own cc nL ret d Q pc' L (zI (gi mm kd i (zn j)) :: st) mm) : V E own cc nL ret d Q pc L (zI j :: zK kd i :: st) mm := by
  subst hp
  intro p e s m args below meth c H locs ls C hS hP hL hst
  have hi : i < zcnt kd := zst_h (zst_t hst)
  refine W.zald C.1 C.2.1 (zat_has hP ha hi) (zarr_of (t := 2) C.2.2.2.2.2.2.2.2 (by decide) _ _) (fun q => by cases q) (by rw [arrV_size]; exact zin_vp hin) (v := .int (gi mm kd i (zn j))) (by rw [arrV_read _ _ (zin_lt hin)]; rfl) rfl rfl hd (kk p e s m args below meth c H locs ls C hS hP hL (zst_i (zst_t (zst_t hst))))
theorem V_lald (pc' : Nat) (hp : pc + 1 = pc') {kd i n : Nat} {j : Int32} (hd : decode cc pc = .ok (.laload, 1)) (ha : zat kd = some (3, n)) (hin : zin j n = true) (kk : V E own cc nL ret d Q pc' L (zJ (gl mm (zn j)) :: st) mm) : V E own cc nL ret d Q pc L (zI j :: zK kd i :: st) mm := by
  subst hp
  intro p e s m args below meth c H locs ls C hS hP hL hst
  have hi : i < zcnt kd := zst_h (zst_t hst)
  refine W.lald C.1 C.2.1 (zat_has hP ha hi) (zarr_of (t := 3) C.2.2.2.2.2.2.2.2 (by decide) _ _) (fun q => by cases q) (by rw [arrV_size]; exact zin_vp hin) (v := .long (gl mm (zn j))) (by rw [arrV_read _ _ (zin_lt hin)]; rfl) rfl rfl hd (kk p e s m args below meth c H locs ls C hS hP hL (zst_j (zst_t (zst_t hst))))
theorem zty_ref {t : Nat} (ht : 4 ≤ t) (h7 : t < 7) : (zty t).isReference = true := by
  match t, ht, h7 with
  | 4, _, _ => rfl
  | 5, _, _ => rfl
  | 6, _, _ => rfl
theorem zav_ref {t kd i j : Nat} (ht : 4 ≤ t) (h7 : t < 7) : zav E mm t kd i j = .ref (zad E (zrk kd) (zri kd i j)) := by
  match t, ht, h7 with
  | 4, _, _ => rfl
  | 5, _, _ => rfl
  | 6, _, _ => rfl
theorem V_aald (pc' : Nat) (hp : pc + 1 = pc') {kd i n t : Nat} {j : Int32} (k1 i1 : Nat) (hd : decode cc pc = .ok (.aaload, 1)) (ha : zat kd = some (t, n)) (ht : 4 ≤ t) (h7 : t < 7) (h1 : zrk kd = k1) (h2 : zri kd i (zn j) = i1) (hin : zin j n = true) (kk : V E own cc nL ret d Q pc' L (zK k1 i1 :: st) mm) : V E own cc nL ret d Q pc L (zI j :: zK kd i :: st) mm := by
  subst hp; subst h1; subst h2
  intro p e s m args below meth c H locs ls C hS hP hL hst
  have hi : i < zcnt kd := zst_h (zst_t hst)
  refine W.aald (ty := zty t) C.1 C.2.1 (zat_has hP ha hi) (zarr_of (t := t) C.2.2.2.2.2.2.2.2 h7 _ _) (zty_ref ht h7) (fun q => by cases q) (by rw [arrV_size]; exact zin_vp hin) (v := .ref (zad E (zrk kd) (zri kd i (zn j)))) (by rw [arrV_read _ _ (zin_lt hin), zav_ref ht h7]) rfl rfl hd (kk p e s m args below meth c H locs ls C hS hP hL (zst_c (zri_ok ha ht hi (zin_lt hin)) (zst_t (zst_t hst))))
theorem V_alen (pc' : Nat) (hp : pc + 1 = pc') {kd i n t : Nat} (v : Int32) (hd : decode cc pc = .ok (.arraylength, 1)) (ha : zat kd = some (t, n)) (h7 : t < 7) (hv : Int32.ofNat n = v) (kk : V E own cc nL ret d Q pc' L (zI v :: st) mm) : V E own cc nL ret d Q pc L (zK kd i :: st) mm := by
  subst hp
  intro p e s m args below meth c H locs ls C hS hP hL hst
  have hi : i < zcnt kd := zst_h hst
  refine W.alen (n := v) C.1 C.2.1 (zat_has hP ha hi) (zarr_of (t := t) C.2.2.2.2.2.2.2.2 h7 _ _) (by rw [arrV_size]; exact hv) rfl rfl hd (kk p e s m args below meth c H locs ls C hS hP hL (zst_i (zst_t hst)))
/-- the script -/
theorem V_sald (pc' : Nat) (hp : pc + 1 = pc') {j : Int32} (hd : decode cc pc = .ok (.iaload, 1)) (hin : zin j (zsL E) = true) (kk : V E own cc nL ret d Q pc' L (zI (zsx E (zn j)) :: st) mm) : V E own cc nL ret d Q pc L (zI j :: zK 60 0 :: st) mm := by
  subst hp
  intro p e s m args below meth c H locs ls C hS hP hL hst
  obtain ⟨scr, g1, g2, g3, g4, g5⟩ := C.2.2.2.2.2.2.2.2.2.2.2.2.1
  have hlt := C.2.2.2.2.2.2.2.2.2.2.2.2.2.1
  have hb := C.2.2.2.2.2.2.2.2.2.2.2.2.2.2.1
  have e1 : H[zad E 60 0]? = some scr := by rw [hS.2.1 _ (by omega) (by unfold zA; omega)]; exact g1
  refine W.iald C.1 C.2.1 e1 g2 g3 (by rw [g4]; exact zin_vp hin) (v := .int (zsx E (zn j))) (g5 _ (zin_lt hin)) rfl rfl hd (kk p e s m args below meth c H locs ls C hS hP hL (zst_i (zst_t (zst_t hst))))
theorem V_slen (pc' : Nat) (hp : pc + 1 = pc') (hd : decode cc pc = .ok (.arraylength, 1)) (kk : V E own cc nL ret d Q pc' L (zI (Int32.ofNat (zsL E)) :: st) mm) : V E own cc nL ret d Q pc L (zK 60 0 :: st) mm := by
  subst hp
  intro p e s m args below meth c H locs ls C hS hP hL hst
  obtain ⟨scr, g1, g2, g3, g4, g5⟩ := C.2.2.2.2.2.2.2.2.2.2.2.2.1
  have hlt := C.2.2.2.2.2.2.2.2.2.2.2.2.2.1
  have hb := C.2.2.2.2.2.2.2.2.2.2.2.2.2.2.1
  have e1 : H[zad E 60 0]? = some scr := by rw [hS.2.1 _ (by omega) (by unfold zA; omega)]; exact g1
  refine W.alen (n := Int32.ofNat (zsL E)) C.1 C.2.1 e1 g2 (by rw [g4]) rfl rfl hd (kk p e s m args below meth c H locs ls C hS hP hL (zst_i (zst_t hst)))
/-- an array is stored into -/
theorem zHP_ast {m2 : zM} {kd i t n j : Nat} {v : Value} {H H1 : Heap} (hpf : zPF E) (hP : zHP E mm H) (ha : zat kd = some (t, n)) (hi : i < zcnt kd)
    (e1 : H1[zad E kd i]? = some ((arrV (zac E t) n (zav E mm t kd i)).setSlot j v)) (e3 : ∀ q, q ≠ zad E kd i → H1[q]? = H[q]?)
    (hv : zav E m2 t kd i j = v) (ho : ∀ t' k' i' j' n', zat k' = some (t', n') → i' < zcnt k' → (k' ≠ kd ∨ i' ≠ i ∨ j' ≠ j) → zav E m2 t' k' i' j' = zav E mm t' k' i' j') (hf : ∀ k' i' j', k' < 11 → zfv E m2 k' i' j' = zfv E mm k' i' j') (hr : ∀ k' k, gr m2 k' k = gr mm k' k) : zHP E m2 H1 := by
  obtain ⟨g1, g2⟩ := zat_ge ha
  refine ⟨fun k' i' q hq hi' => ?_, fun k' i' t' n' hq hi' => ?_, fun k' k j a b => hP.2.2 k' k j a (by rw [← hr]; exact b)⟩
  · have h11 := vwCl_lt hq
    have hne : zad E k' i' ≠ zad E kd i := fun z => by have := (hpf.1 k' i' kd i (by omega) g2 hi' hi z).1; omega
    exact ((hP.1 k' i' q hq hi').kept (e3 _ hne)).to (fun j hj => (hf k' i' j h11).symm)
  · obtain ⟨f1, f2⟩ := zat_ge hq
    by_cases hh : k' = kd ∧ i' = i
    · obtain ⟨rfl, rfl⟩ := hh
      cases ha.symm.trans hq
      rw [e1, arrV_store]
      congr 2
      funext j'
      unfold updV
      by_cases hj : j' = j
      · rw [if_pos hj, hj, hv]
      · rw [if_neg hj]
        exact (ho t k' i' j' n ha hi (Or.inr (Or.inr hj))).symm
    · have hne : zad E k' i' ≠ zad E kd i := fun z => hh (hpf.1 k' i' kd i f2 g2 hi' hi z)
      rw [e3 _ hne, hP.2.1 k' i' t' n' hq hi']
      congr 2
      funext j'
      exact (ho t' k' i' j' n' hq hi' (by by_cases z : k' = kd <;> simp_all)).symm
theorem zHP_wi {kd i t n : Nat} {j : Nat} {x : Int32} {H H1 : Heap} (hpf : zPF E) (hP : zHP E mm H) (ha : zat kd = some (t, n)) (ht : t < 3) (hi : i < zcnt kd)
    (e1 : H1[zad E kd i]? = some ((arrV (zac E t) n (zav E mm t kd i)).setSlot j (.int x))) (e3 : ∀ q, q ≠ zad E kd i → H1[q]? = H[q]?) : zHP E (wi mm kd i j x) H1 := by
  obtain ⟨g1, g2⟩ := zat_ge ha
  refine zHP_ast hpf hP ha hi e1 e3 ?_ ?_ ?_ (fun _ _ => rfl)
  · match t, ht with
    | 0, _ => simp [zav, gi_wi]
    | 1, _ => simp [zav, gi_wi]
    | 2, _ => simp [zav, gi_wi]
  · intro t' k' i' j' n' _ _ hne
    unfold zav
    rw [gi_wi, gl_wi]
    rw [if_neg (by rintro ⟨a, b, c⟩; rcases hne with z | z | z <;> exact z (by assumption))]
  · intro k' i' j' h11
    unfold zfv
    rw [gi_wi, gr_wi, if_neg (by omega)]
theorem V_iast (pc' : Nat) (hp : pc + 1 = pc') {kd i n : Nat} {j x : Int32} (hd : decode cc pc = .ok (.iastore, 1)) (ha : zat kd = some (0, n)) (hin : zin j n = true) (kk : V E own cc nL ret d Q pc' L st (wi mm kd i (zn j) x)) : V E own cc nL ret d Q pc L (zI x :: zI j :: zK kd i :: st) mm := by
  subst hp
  intro p e s m args below meth c H locs ls C hS hP hL hst
  have hi : i < zcnt kd := zst_h (zst_t (zst_t hst))
  have hpf := C.2.2.2.2.2.2.2.1
  obtain ⟨g1, g2⟩ := zat_ge ha
  refine W.iast C.1 C.2.1 (zat_has hP ha hi) (zarr_of (t := 0) C.2.2.2.2.2.2.2.2 (by decide) _ _) (fun q => by cases q) (by rw [arrV_size]; exact zin_vp hin) rfl rfl hd (fun H1 e1 e2 e3 => ?_)
  exact kk p e s m args below meth c H1 _ ls C (hS.put e2 e3 (hpf.2 kd i g2 hi)) (zHP_wi hpf hP ha (by decide) hi e1 e3) hL (zst_t (zst_t (zst_t hst)))
theorem V_bast (pc' : Nat) (hp : pc + 1 = pc') {kd i n : Nat} {j x : Int32} (hd : decode cc pc = .ok (.bastore, 1)) (ha : zat kd = some (1, n)) (hin : zin j n = true) (kk : V E own cc nL ret d Q pc' L st (wi mm kd i (zn j) x.toInt8.toInt32)) : V E own cc nL ret d Q pc L (zI x :: zI j :: zK kd i :: st) mm := by
  subst hp
  intro p e s m args below meth c H locs ls C hS hP hL hst
  have hi : i < zcnt kd := zst_h (zst_t (zst_t hst))
  have hpf := C.2.2.2.2.2.2.2.1
  obtain ⟨g1, g2⟩ := zat_ge ha
  refine W.bast C.1 C.2.1 (zat_has hP ha hi) (zarr_of (t := 1) C.2.2.2.2.2.2.2.2 (by decide) _ _) (fun q => by cases q) (by rw [arrV_size]; exact zin_vp hin) rfl rfl hd (fun H1 e1 e2 e3 => ?_)
  exact kk p e s m args below meth c H1 _ ls C (hS.put e2 e3 (hpf.2 kd i g2 hi)) (zHP_wi hpf hP ha (by decide) hi e1 e3) hL (zst_t (zst_t (zst_t hst)))
theorem V_zast (pc' : Nat) (hp : pc + 1 = pc') {kd i n : Nat} {j x : Int32} (hd : decode cc pc = .ok (.bastore, 1)) (ha : zat kd = some (2, n)) (hin : zin j n = true) (kk : V E own cc nL ret d Q pc' L st (wi mm kd i (zn j) (x &&& 1))) : V E own cc nL ret d Q pc L (zI x :: zI j :: zK kd i :: st) mm := by
  subst hp
  intro p e s m args below meth c H locs ls C hS hP hL hst
  have hi : i < zcnt kd := zst_h (zst_t (zst_t hst))
  have hpf := C.2.2.2.2.2.2.2.1
  obtain ⟨g1, g2⟩ := zat_ge ha
  refine W.zast C.1 C.2.1 (zat_has hP ha hi) (zarr_of (t := 2) C.2.2.2.2.2.2.2.2 (by decide) _ _) (fun q => by cases q) (by rw [arrV_size]; exact zin_vp hin) rfl rfl hd (fun H1 e1 e2 e3 => ?_)
  exact kk p e s m args below meth c H1 _ ls C (hS.put e2 e3 (hpf.2 kd i g2 hi)) (zHP_wi hpf hP ha (by decide) hi e1 e3) hL (zst_t (zst_t (zst_t hst)))
theorem zat3 {k n : Nat} (h : zat k = some (3, n)) : k = 53 := by
  unfold zat at h
  split at h <;> first | rfl | (cases h)
theorem V_last (pc' : Nat) (hp : pc + 1 = pc') {kd i n : Nat} {j : Int32} {x : Int64} (hd : decode cc pc = .ok (.lastore, 1)) (ha : zat kd = some (3, n)) (hin : zin j n = true) (kk : V E own cc nL ret d Q pc' L st (wl mm (zn j) x)) : V E own cc nL ret d Q pc L (zJ x :: zI j :: zK kd i :: st) mm := by
  subst hp
  intro p e s m args below meth c H locs ls C hS hP hL hst
  have hi : i < zcnt kd := zst_h (zst_t (zst_t hst))
  have hpf := C.2.2.2.2.2.2.2.1
  obtain ⟨g1, g2⟩ := zat_ge ha
  refine W.last C.1 C.2.1 (zat_has hP ha hi) (zarr_of (t := 3) C.2.2.2.2.2.2.2.2 (by decide) _ _) (fun q => by cases q) (by rw [arrV_size]; exact zin_vp hin) rfl rfl hd (fun H1 e1 e2 e3 => ?_)
  refine kk p e s m args below meth c H1 _ ls C (hS.put e2 e3 (hpf.2 kd i g2 hi)) (zHP_ast hpf hP ha hi e1 e3 ?_ ?_ (fun k' i' j' h11 => rfl) (fun _ _ => rfl)) hL (zst_t (zst_t (zst_t hst)))
  · simp [zav, gl_wl]
  · intro t' k' i' j' n' hq hi' hne
    by_cases h3 : t' = 3
    · subst h3
      have e1 := zat3 hq
      have e2 := zat3 ha
      subst e1; subst e2
      have a1 : i' < 1 := hi'
      have a2 : i < 1 := hi
      have hj : j' ≠ j.toNatClampNeg := by
        rcases hne with z | z | z
        · exact absurd rfl z
        · omega
        · exact z
      simp [zav, gl_wl, hj]
    · unfold zav
      split <;> first | rfl | (exact absurd rfl h3)
/-- the ends -/
theorem V_iret {x : Int32} (hd : decode cc pc = .ok (.ireturn, 1)) (hr : ret = some .int) (hq : Q (some (zI x)) mm) : V E own cc nL ret d Q pc L [zI x] mm := by
  intro p e s m args below meth c H locs ls C hS hP hL hst
  exact W.iret C.1 C.2.1 (C.2.2.1.trans hr) (fun t ht hW => ⟨⟨some (zI x), mm, rfl, hq, by rw [ht]; exact hP⟩, hS.F ht⟩) hS.2.2 hd C.2.2.2.2.2.2.1
theorem V_zret {x : Int32} {ty : FieldType} (hd : decode cc pc = .ok (.ireturn, 1)) (hr : ret = some ty) (hn : narrow ty (.int x) = .int x) (hq : Q (some (zI x)) mm) : V E own cc nL ret d Q pc L [zI x] mm := by
  intro p e s m args below meth c H locs ls C hS hP hL hst
  exact W.zret C.1 C.2.1 (C.2.2.1.trans hr) hn (fun t ht hW => ⟨⟨some (zI x), mm, rfl, hq, by rw [ht]; exact hP⟩, hS.F ht⟩) hS.2.2 hd C.2.2.2.2.2.2.1
theorem V_lret {x : Int64} (hd : decode cc pc = .ok (.lreturn, 1)) (hr : ret = some .long) (hq : Q (some (zJ x)) mm) : V E own cc nL ret d Q pc L [zJ x] mm := by
  intro p e s m args below meth c H locs ls C hS hP hL hst
  have hr2 := C.2.2.1.trans hr
  have hlk := C.2.2.2.2.2.2.1
  exact W.lret C.1 C.2.1 hr2 (fun t ht hW => ⟨⟨some (zJ x), mm, rfl, hq, by rw [ht]; exact hP⟩, hS.F ht⟩) hS.2.2 hd hlk
theorem V_vret (hd : decode cc pc = .ok (.return_, 1)) (hr : ret = none) (hq : Q none mm) : V E own cc nL ret d Q pc L [] mm := by
  intro p e s m args below meth c H locs ls C hS hP hL hst
  exact W.vret C.1 C.2.1 (C.2.2.1.trans hr) (fun t ht hW => ⟨⟨none, mm, rfl, hq, by rw [ht]; exact hP⟩, hS.F ht⟩) hS.2.2 hd C.2.2.2.2.2.2.1
end ZA
