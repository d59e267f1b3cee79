/-! the law's loop -/
def CK : List Nat := [5, 7, 8, 11, 12, 13, 15, 17, 18, 20, 21, 22, 24, 25, 26, 27, 28, 29, 30, 31, 32, 33, 34, 36, 104, 106, 109, 1102, 1103, 1209, 1302, 1401, 1402, 1403, 1404, 1405, 1406, 1603, 1604, 1605, 1606, 1607, 1608, 1609, 1610, 1901, 1905, 1912]
def RK : List Nat := [38, 39, 40, 41, 42, 43, 44, 45, 46, 47, 48, 49, 50, 51, 52, 53, 2005, 2007, 2008, 2009, 2010, 2011, 2022, 2023, 2024, 2025, 2026, 2027, 2028]
theorem stp {f g : zM → Option (Int32 × zM)} {m : zM} {v : Int32} (hC : CALL f g) (hf : ∀ m, Fr (fun o => FS CK m o.2) (f m)) (hg : ∀ m, Fr (fun o => FS RK m o.2) (g m)) (hI : INV m m) : ok ((f m).bind (fun x => (g x.2).bind (fun y => if x.1 = y.1 then some (Sum.inl (v, y.2) : (Int32 × zM) ⊕ (zM ⊕ (Int32 × zM))) else some (.inr (.inr (0, y.2)))))) (fun o => ∃ m', o = .inl (v, m') ∧ INV m' m') := by
  obtain ⟨a0, b0, e1, -, -, -⟩ := hC m m hI
  have f1 := hf m a0 e1
  obtain ⟨a, b, e2, e3, h1, h2⟩ := hC m a0.2 (INV_r hI f1 (rel_no (by decide)))
  rw [e1] at e2
  cases e2
  have f2 := hg a0.2 b e3
  rw [e1, Option.bind_some, e3, Option.bind_some, if_pos h1]
  exact ok_some ⟨b.2, rfl, INV_l h2 f2 (rel_no (by decide))⟩
theorem stl {f g : zM → Option (Int64 × zM)} {m : zM} {v : Int32} (hC : CALLl f g) (hf : ∀ m, Fr (fun o => FS CK m o.2) (f m)) (hg : ∀ m, Fr (fun o => FS RK m o.2) (g m)) (hI : INV m m) : ok ((f m).bind (fun x => (g x.2).bind (fun y => if lg_cmp x.1 y.1 = 0 then some (Sum.inl (v, y.2) : (Int32 × zM) ⊕ (zM ⊕ (Int32 × zM))) else some (.inr (.inr (0, y.2)))))) (fun o => ∃ m', o = .inl (v, m') ∧ INV m' m') := by
  obtain ⟨a0, b0, e1, -, -, -⟩ := hC m m hI
  have f1 := hf m a0 e1
  obtain ⟨a, b, e2, e3, h1, h2⟩ := hC m a0.2 (INV_r hI f1 (rel_no (by decide)))
  rw [e1] at e2
  cases e2
  have f2 := hg a0.2 b e3
  have e4 : lg_cmp a0.1 b.1 = 0 := by
    rw [h1]
    unfold lg_cmp
    rw [if_neg (fun q => Int64.lt_irrefl q), if_pos rfl]
  rw [e1, Option.bind_some, e3, Option.bind_some, if_pos e4]
  exact ok_some ⟨b.2, rfl, INV_l h2 f2 (rel_no (by decide))⟩
theorem stq {f : zM → Option (Int32 × zM)} {g : zM → Option Int32} {m : zM} {v : Int32} (hC : CALLq f g) (hf : ∀ m, Fr (fun o => FS CK m o.2) (f m)) (hI : INV m m) : ok ((f m).bind (fun x => (g x.2).bind (fun y => if x.1 = y then some (Sum.inl (v, x.2) : (Int32 × zM) ⊕ (zM ⊕ (Int32 × zM))) else some (.inr (.inr (0, x.2)))))) (fun o => ∃ m', o = .inl (v, m') ∧ INV m' m') := by
  obtain ⟨a0, b0, e1, -, -, -⟩ := hC m m hI
  have f1 := hf m a0 e1
  obtain ⟨a, b, e2, e3, h1, h2⟩ := hC m a0.2 (INV_r hI f1 (rel_no (by decide)))
  rw [e1] at e2
  cases e2
  rw [e1, Option.bind_some, e3, Option.bind_some, if_pos h1]
  exact ok_some ⟨a0.2, rfl, h2⟩
theorem stpu {f g : zM → Option Int32} {m : zM} {v : Int32} (hC : CALLp f g) (hI : INV m m) : ok ((f m).bind (fun x => (g m).bind (fun y => if x = y then some (Sum.inl (v, m) : (Int32 × zM) ⊕ (zM ⊕ (Int32 × zM))) else some (.inr (.inr (0, m)))))) (fun o => ∃ m', o = .inl (v, m') ∧ INV m' m') := by
  obtain ⟨a, b, e1, e2, h1⟩ := hC m m hI
  rw [e1, Option.bind_some, e2, Option.bind_some, if_pos h1]
  exact ok_some ⟨m, rfl, hI⟩
theorem INV_0 : INV zm0 zm0 := by
  refine ⟨0, 0, 1, 0, 0, 0, 0, 0, ⟨by omega, rfl, rfl, fun i _ => ⟨rfl, show (0 : Int32).toInt8.toInt32 = 0 by decide⟩⟩, ⟨rfl, rfl, by omega, by omega, by omega, rfl, rfl, by omega, fun u hu => by omega⟩, ⟨by omega, by omega, rfl, rfl, rfl, fun q => by omega, fun q => by omega⟩, ⟨by omega, by omega, rfl, rfl, rfl, fun _ _ _ => 0, fun u hu => by omega, fun j hj => by omega⟩, Or.inr ⟨rfl, fun r e _ => ⟨?_, fun u hu => by omega⟩⟩⟩
  unfold fX10_lays_
  have lp : zloop fX10_lays__L2 zF (0, r) = some (Sum.inl r) := by
    refine zloop_e ?_
    unfold fX10_lays__L2
    dsimp only
    rw [n1356, e, if_pos (show nI 0 ≤ 0 from Int32.le_refl _)]
  rw [lp]
  exact ok_some ⟨fun u m hu => by omega, fun u hu => by omega⟩
theorem zob_1 {α : Type} (x : Option α) : zob true x = x := rfl
theorem law_step {E : zE} {i : Nat} {m : zM} (hL : zsL E ≤ 3072) (h6 : 6 * i + 6 ≤ zsL E) (hI : INV m m) : ok (fL_law_L18 E (nI (6 * i), m)) (fun o => ∃ m', o = .inl (nI (6 * i + 6), m') ∧ INV m' m') := by
  have z0 : zin (nI (6 * i)) (zsL E) = true := zin_n (by omega) (by omega)
  have z1 : zin (nI (6 * i) + 1) (zsL E) = true := by rw [nI_1]; exact zin_n (by omega) (by omega)
  have z2 : zin (nI (6 * i) + 2) (zsL E) = true := by rw [show nI (6 * i) + 2 = nI (6 * i + 2) from nI_add _ 2]; exact zin_n (by omega) (by omega)
  have z3 : zin (nI (6 * i) + 3) (zsL E) = true := by rw [show nI (6 * i) + 3 = nI (6 * i + 3) from nI_add _ 3]; exact zin_n (by omega) (by omega)
  have z4 : zin (nI (6 * i) + 4) (zsL E) = true := by rw [show nI (6 * i) + 4 = nI (6 * i + 4) from nI_add _ 4]; exact zin_n (by omega) (by omega)
  have z5 : zin (nI (6 * i) + 5) (zsL E) = true := by rw [show nI (6 * i) + 5 = nI (6 * i + 5) from nI_add _ 5]; exact zin_n (by omega) (by omega)
  unfold fL_law_L18
  dsimp only
  rw [show Int32.ofNat (zsL E) - 6 = nI (zsL E - 6) from pk_sub (b := 6) (by omega), if_neg (fun q => by have := (nIlt (by omega) (by omega)).mp q; omega), show nI (6 * i) + 6 = nI (6 * i + 6) from nI_add _ 6]
  simp only [z0, z1, z2, z3, z4, z5, zob_1]
  refine ok_if (fun _ => ?_) (fun _ => ?_)
  · exact stp (call_feed _ _ _ _ _) (fun m => frX9_feed (zss (by decide)) (FS_refl m)) (fun m => frX10_feed (zss (by decide)) (FS_refl m)) hI
  refine ok_if (fun _ => ?_) (fun _ => ?_)
  · exact stp (call_end _) (fun m => frX9_end (zss (by decide)) (FS_refl m)) (fun m => frX10_end (zss (by decide)) (FS_refl m)) hI
  refine ok_if (fun _ => ?_) (fun _ => ?_)
  · exact stp call_tell (fun m => frX9_tell (zss (by decide)) (FS_refl m)) (fun m => frX10_tell (zss (by decide)) (FS_refl m)) hI
  refine ok_if (fun _ => ?_) (fun _ => ?_)
  · exact stp (call_join _ _) (fun m => frX9_join (zss (by decide)) (FS_refl m)) (fun m => frX10_join (zss (by decide)) (FS_refl m)) hI
  refine ok_if (fun _ => ?_) (fun _ => ?_)
  · exact stp (call_leave _ _) (fun m => frX9_leave (zss (by decide)) (FS_refl m)) (fun m => frX10_leave (zss (by decide)) (FS_refl m)) hI
  refine ok_if (fun _ => ?_) (fun _ => ?_)
  · exact stp (call_turn _) (fun m => frX9_turn (zss (by decide)) (FS_refl m)) (fun m => frX10_turn (zss (by decide)) (FS_refl m)) hI
  refine ok_if (fun _ => ?_) (fun _ => ?_)
  · exact stp (call_give _ _ _) (fun m => frX9_give (zss (by decide)) (FS_refl m)) (fun m => frX10_give (zss (by decide)) (FS_refl m)) hI
  refine ok_if (fun _ => ?_) (fun _ => ?_)
  · exact stp (call_need _ _) (fun m => frX9_need (zss (by decide)) (FS_refl m)) (fun m => frX10_need (zss (by decide)) (FS_refl m)) hI
  refine ok_if (fun _ => ?_) (fun _ => ?_)
  · exact stp (call_take _ _) (fun m => frX9_take (zss (by decide)) (FS_refl m)) (fun m => frX10_take (zss (by decide)) (FS_refl m)) hI
  refine ok_if (fun _ => ?_) (fun _ => ?_)
  · exact stp (call_use _ _) (fun m => frX9_use (zss (by decide)) (FS_refl m)) (fun m => frX10_use (zss (by decide)) (FS_refl m)) hI
  refine ok_if (fun _ => ?_) (fun _ => ?_)
  · exact stp (call_change _ _ _ _) (fun m => frX9_change (zss (by decide)) (FS_refl m)) (fun m => frX10_change (zss (by decide)) (FS_refl m)) hI
  refine ok_if (fun _ => ?_) (fun _ => ?_)
  · exact stp call_undo (fun m => frX9_undo (zss (by decide)) (FS_refl m)) (fun m => frX10_undo (zss (by decide)) (FS_refl m)) hI
  refine ok_if (fun _ => ?_) (fun _ => ?_)
  · exact stp (call_keep _) (fun m => frX9_keep (zss (by decide)) (FS_refl m)) (fun m => frX10_keep (zss (by decide)) (FS_refl m)) hI
  refine ok_if (fun _ => ?_) (fun _ => ?_)
  · exact stp (call_back _) (fun m => frX9_back (zss (by decide)) (FS_refl m)) (fun m => frX10_back (zss (by decide)) (FS_refl m)) hI
  refine ok_if (fun _ => ?_) (fun _ => ?_)
  · exact stp (call_unit _ _) (fun m => frX9_unit (zss (by decide)) (FS_refl m)) (fun m => frX10_unit (zss (by decide)) (FS_refl m)) hI
  refine ok_if (fun _ => ?_) (fun _ => ?_)
  · exact stpu (call_parent _ _) hI
  refine ok_if (fun _ => ?_) (fun _ => ?_)
  · exact stpu (call_used _ _) hI
  refine ok_if (fun _ => ?_) (fun _ => ?_)
  · exact stpu (call_becomes _ _ _) hI
  refine ok_if (fun _ => ?_) (fun _ => ?_)
  · exact stpu (call_body _ _ _) hI
  refine ok_if (fun _ => ?_) (fun _ => ?_)
  · exact stp (call_flat _ _ _) (fun m => frX9_flat (zss (by decide)) (FS_refl m)) (fun m => frX10_flat (zss (by decide)) (FS_refl m)) hI
  refine ok_if (fun _ => ?_) (fun _ => ?_)
  · exact stp (call_line _ _) (fun m => frX9_line (zss (by decide)) (FS_refl m)) (fun m => frX10_line (zss (by decide)) (FS_refl m)) hI
  refine ok_if (fun _ => ?_) (fun _ => ?_)
  · exact stp (call_ring _ _) (fun m => frX9_ring (zss (by decide)) (FS_refl m)) (fun m => frX10_ring (zss (by decide)) (FS_refl m)) hI
  refine ok_if (fun _ => ?_) (fun _ => ?_)
  · exact stq (call_over _) (fun m => frX9_over (zss (by decide)) (FS_refl m)) hI
  refine ok_if (fun _ => ?_) (fun _ => ?_)
  · exact stl (call_orders _) (fun m => frX9_orders (zss (by decide)) (FS_refl m)) (fun m => frX10_orders (zss (by decide)) (FS_refl m)) hI
  refine ok_if (fun _ => ?_) (fun _ => ?_)
  · exact stp (call_first _ _) (fun m => frX9_first (zss (by decide)) (FS_refl m)) (fun m => frX10_first (zss (by decide)) (FS_refl m)) hI
  refine ok_if (fun _ => ?_) (fun _ => ?_)
  · exact stp (call_place _ _) (fun m => frX9_place (zss (by decide)) (FS_refl m)) (fun m => frX10_place (zss (by decide)) (FS_refl m)) hI
  refine ok_if (fun _ => ?_) (fun _ => ?_)
  · exact stp (call_send _ _ _) (fun m => frX9_send (zss (by decide)) (FS_refl m)) (fun m => frX10_send (zss (by decide)) (FS_refl m)) hI
  refine ok_if (fun _ => ?_) (fun _ => ?_)
  · exact stp (call_chain _ _ _) (fun m => frX9_chain (zss (by decide)) (FS_refl m)) (fun m => frX10_chain (zss (by decide)) (FS_refl m)) hI
  refine ok_if (fun _ => ?_) (fun _ => ?_)
  · exact stp (call_lacks _) (fun m => frX9_lacks (zss (by decide)) (FS_refl m)) (fun m => frX10_lacks (zss (by decide)) (FS_refl m)) hI
  refine ok_if (fun _ => ?_) (fun _ => ?_)
  · exact stp (call_answers _) (fun m => frX9_answers (zss (by decide)) (FS_refl m)) (fun m => frX10_answers (zss (by decide)) (FS_refl m)) hI
  refine ok_if (fun _ => ?_) (fun _ => ?_)
  · exact stp (call_alike _ _) (fun m => frX9_alike (zss (by decide)) (FS_refl m)) (fun m => frX10_alike (zss (by decide)) (FS_refl m)) hI
  refine ok_if (fun _ => ?_) (fun _ => ?_)
  · exact stp (call_origins _ _) (fun m => frX9_origins (zss (by decide)) (FS_refl m)) (fun m => frX10_origins (zss (by decide)) (FS_refl m)) hI
  refine ok_if (fun _ => ?_) (fun _ => ?_)
  · exact stl (call_mean _) (fun m => frX9_mean (zss (by decide)) (FS_refl m)) (fun m => frX10_mean (zss (by decide)) (FS_refl m)) hI
  refine ok_if (fun _ => ?_) (fun _ => ?_)
  · exact stpu (call_find _) hI
  refine ok_if (fun _ => ?_) (fun _ => ?_)
  · exact stp (call_count _) (fun m => frX9_count (zss (by decide)) (FS_refl m)) (fun m => frX10_count (zss (by decide)) (FS_refl m)) hI
  exact ok_some ⟨m, rfl, hI⟩
theorem law_main (E : zE) (hL : zsL E ≤ 3072) : ∃ (n : Nat) (m' : zM), zloop (fL_law_L18 E) n (0, zm0) = some (.inl m') := by
  have key : ok (zloop (fL_law_L18 E) 3000 (0, zm0)) (fun o => ∃ m', o = Sum.inl m') := by
    refine ok_loop (I := fun k s => ∃ i m, k = 2000 - i ∧ i ≤ 600 ∧ 6 * i < zsL E + 6 ∧ s = (nI (6 * i), m) ∧ INV m m) (fun k s hI => ?_) 3000 2000 (0, zm0) ⟨0, zm0, rfl, by omega, by omega, rfl, INV_0⟩ (by omega)
    obtain ⟨i, m, rfl, hi, hL2, rfl, hI⟩ := hI
    by_cases h6 : 6 * i + 6 ≤ zsL E
    · refine ok_mono (law_step hL h6 hI) (fun o ho => ?_)
      obtain ⟨m', rfl, hI'⟩ := ho
      exact Or.inl ⟨_, 2000 - (i + 1), rfl, by omega, i + 1, m', rfl, by omega, by omega, rfl, hI'⟩
    · unfold fL_law_L18
      dsimp only
      have e : Int32.ofNat (zsL E) - 6 < nI (6 * i) := by
        by_cases h : 6 ≤ zsL E
        · rw [show Int32.ofNat (zsL E) - 6 = nI (zsL E - 6) from pk_sub (b := 6) h]
          exact (nIlt (by omega) (by omega)).mpr (by omega)
        · have tab : ∀ a, a < 6 → Int32.ofNat a - 6 < 0 := by decide
          have h0 := tab (zsL E) (by omega)
          exact Int32.lt_of_lt_of_le h0 (nI_pos' (by omega))
      rw [if_pos e]
      exact ok_some (Or.inr ⟨_, rfl, m, rfl⟩)
  obtain ⟨o, e, m', rfl⟩ := key
  exact ⟨3000, m', e⟩
