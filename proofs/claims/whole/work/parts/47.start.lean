/-! the start: the heap behind both constructors holds the empty memory -/
theorem zck1_at {k i : Nat} (hk : k < 11) (hi : i < zcnt k) : zck1 k i = true := by
  have h := List.all_eq_true.mp zck1_ok k (List.mem_range.mpr hk)
  exact List.all_eq_true.mp h i (List.mem_range.mpr hi)
theorem zck2_at {k i : Nat} (h1 : 11 ≤ k) (hk : k < 54) (hi : i < zcnt k) : zck2 k i = true := by
  have h := List.all_eq_true.mp zck2_ok (k - 11) (List.mem_range.mpr (by omega))
  rw [show 11 + (k - 11) = k by omega] at h
  exact List.all_eq_true.mp h i (List.mem_range.mpr hi)
theorem zall_in {k i : Nat} (hk : k < 54) (hi : i < zcnt k) : (k, i) ∈ zall := by
  unfold zall
  rw [List.mem_flatMap]
  exact ⟨k, List.mem_range.mpr hk, List.mem_map.mpr ⟨i, List.mem_range.mpr hi, rfl⟩⟩
theorem zoff_inj {k i k' i' : Nat} (hk : k < 54) (hk' : k' < 54) (hi : i < zcnt k) (hi' : i' < zcnt k') (h : zoff k i = zoff k' i') : k = k' ∧ i = i' := by
  have h1 := List.all_eq_true.mp zinv_ok _ (zall_in hk hi)
  have h2 := List.all_eq_true.mp zinv_ok _ (zall_in hk' hi')
  simp only [beq_iff_eq] at h1 h2
  rw [h, h2] at h1
  have := Option.some.inj h1
  exact ⟨(congrArg Prod.fst this).symm, (congrArg Prod.snd this).symm⟩
theorem zlk_lt (kd k : Nat) (h : kd < 11) : zlk kd k < 54 := by
  match kd, h with
  | 0, _ => unfold zlk; split <;> first | decide | simp_all
  | 1, _ => unfold zlk; split <;> first | decide | simp_all
  | 2, _ => unfold zlk; split <;> first | decide | simp_all
  | 3, _ => unfold zlk; split <;> first | decide | simp_all
  | 4, _ => unfold zlk; split <;> first | decide | simp_all
  | 5, _ => unfold zlk; split <;> first | decide | simp_all
  | 6, _ => unfold zlk; split <;> first | decide | simp_all
  | 7, _ => unfold zlk; split <;> first | decide | simp_all
  | 8, _ => unfold zlk; split <;> first | decide | simp_all
  | 9, _ => unfold zlk; split <;> first | decide | simp_all
  | 10, _ => unfold zlk; split <;> first | decide | simp_all
theorem zrk_lt {kd t n : Nat} (h : zat kd = some (t, n)) (ht : 4 ≤ t) : zrk kd < 54 := by
  unfold zrk
  split <;> first | omega | skip
  exfalso
  unfold zat at h
  split at h <;> first | (cases h; omega) | (cases h; simp_all; done) | (cases h; done)
theorem zFN_ok {k : Nat} {q : vw_C} (h : vwCl[k]? = some q) : q.2.2 = zFN k := by
  have hk := vwCl_lt h
  match k, hk with
  | 0, _ => cases h; rfl
  | 1, _ => cases h; rfl
  | 2, _ => cases h; rfl
  | 3, _ => cases h; rfl
  | 4, _ => cases h; rfl
  | 5, _ => cases h; rfl
  | 6, _ => cases h; rfl
  | 7, _ => cases h; rfl
  | 8, _ => cases h; rfl
  | 9, _ => cases h; rfl
  | 10, _ => cases h; rfl
theorem zr0_lt {kd k j : Nat} (h : zr0 kd k = some j) : kd = 9 ∧ j < zcnt (zlk kd k) := by
  unfold zr0 at h
  split at h
  · cases h; exact ⟨rfl, by decide⟩
  · cases h; exact ⟨rfl, by decide⟩
  · cases h
theorem zHP_start {E0 E : zE} {H : Heap} (hz : zb E = zb E0) (hD : zDD E = zDD E0) (hac : zac E = zac E0) (had : ∀ k i, k < 54 → zad E k i = zb E + zoff k i) (hP : cHP E0 cF H) : zHP E zm0 H := by
  refine ⟨fun kd i q hq hi => ?_, fun kd i t n hq hi => ?_, fun kd k j hf h => (zr0_lt h).2⟩
  · have hk := vwCl_lt hq
    have hN := zFN_ok hq
    have hc := zck1_at hk hi
    unfold zck1 at hc
    cases hcell : cF[zoff kd i]? with
    | none => rw [hcell] at hc; cases hc
    | some c =>
      rw [hcell] at hc
      obtain ⟨tg, nn, refs⟩ := c
      simp only [Bool.and_eq_true, beq_iff_eq] at hc
      obtain ⟨rfl, rfl, hall⟩ := hc
      have hat := hP.2 (zoff tg i) (zb E0 + (0 + zoff tg i), .inr (tg, cfl E0 tg (zFN tg) refs)) (by rw [cwf_get, hcell]; show some (_, ce E0 (tg, (zFN tg, refs))) = _; rw [ce_obj hk])
      obtain ⟨r, hr, hob⟩ := hat
      have er : r = q := Option.some.inj (hr.symm.trans hq)
      subst er
      rw [had tg i (by omega), hz, hD, show zb E0 + zoff tg i = zb E0 + (0 + zoff tg i) by rw [Nat.zero_add]]
      refine hob.to (fun j hj => ?_)
      have hj2 : j < zFN tg := by rw [← hN]; exact hj
      have h9 := List.all_eq_true.mp hall j (List.mem_range.mpr hj2)
      show (cfl E0 tg (zFN tg) refs).getD j .null = _
      rw [List.getD_eq_getElem?_getD, cfl_get E0 _ hj2]
      show (if zfk tg j = 0 then Value.int 0 else cvr E0 (refs.getD j none)) = _
      unfold zfv
      cases hf : zfk tg j with
      | zero => rw [if_pos rfl]; rfl
      | succ n =>
        rw [hf] at h9
        rw [if_neg (by omega)]
        cases n with
        | zero =>
          simp only [beq_iff_eq] at h9
          rw [h9]
          show Value.ref (zb E0 + _) = Value.ref (zad E _ _)
          rw [had _ _ (zlk_lt _ _ hk), hz]
        | succ n =>
          simp only [beq_iff_eq] at h9
          rw [h9]
          show cvr E0 ((zr0 tg j).map _) = (match zr0 tg j with
            | some j' => Value.ref (zad E (zlk tg j) j')
            | none => Value.null)
          cases zr0 tg j with
          | none => rfl
          | some j' =>
            show Value.ref (zb E0 + _) = Value.ref (zad E _ _)
            rw [had _ _ (zlk_lt _ _ hk), hz]
  · obtain ⟨h11, h54⟩ := zat_ge hq
    have hc := zck2_at h11 h54 hi
    unfold zck2 at hc
    rw [hq] at hc
    cases hcell : cF[zoff kd i]? with
    | none => rw [hcell] at hc; cases hc
    | some c =>
      rw [hcell] at hc
      obtain ⟨tg, nn, refs⟩ := c
      simp only [Bool.and_eq_true, beq_iff_eq] at hc
      obtain ⟨rfl, rfl, hall⟩ := hc
      have hat := hP.2 (zoff kd i) (zb E0 + (0 + zoff kd i), .inl (zac E0 t, carr E0 t nn refs)) (by rw [cwf_get, hcell]; show some (_, ce E0 (20 + t, (nn, refs))) = _; rw [ce_arr])
      have hat : H[zb E0 + (0 + zoff kd i)]? = some (vp_cell (zac E0 t) (carr E0 t nn refs)) := hat
      rw [had kd i h54, hz, hac, show zb E0 + zoff kd i = zb E0 + (0 + zoff kd i) by rw [Nat.zero_add], hat]
      refine congrArg some ?_
      unfold carr
      by_cases h3 : t < 3
      · rw [if_pos h3, vp_cell_i]
        refine congrArg (arrV (zac E0 t) nn) (funext fun j => ?_)
        match t, h3 with
        | 0, _ => rfl
        | 1, _ => rfl
        | 2, _ => rfl
      · rw [if_neg h3]
        by_cases h4 : t = 3
        · subst h4
          rw [if_pos rfl, vp_cell_l]
          rfl
        · rw [if_neg h4, vp_cell_q]
          have ht4 : 4 ≤ t := by omega
          simp only [Bool.or_eq_true, decide_eq_true_eq] at hall
          have hall := hall.resolve_left (by omega)
          unfold arrV
          congr 1
          apply Array.ext
          · simp
          · intro j g1 g2
            have hj : j < nn := by simpa using g1
            have h9 := List.all_eq_true.mp hall j (List.mem_range.mpr hj)
            simp only [beq_iff_eq] at h9
            simp only [Array.getElem_ofFn]
            rw [h9]
            have h7 : t < 7 := by
              unfold zat at hq
              split at hq <;> first | (cases hq; decide) | (cases hq)
            rw [zav_ref ht4 h7, had _ _ (zrk_lt hq ht4), hz]
            rfl
theorem zPF_start {E : zE} (had : ∀ k i, k < 54 → zad E k i = zb E + zoff k i) : zPF E := by
  refine ⟨fun k i k' i' h1 h2 h3 h4 h => ?_, fun k i h1 h2 => by rw [had k i h1]; omega⟩
  rw [had k i h1, had k' i' h2] at h
  exact zoff_inj h1 h2 h3 h4 (by omega)
