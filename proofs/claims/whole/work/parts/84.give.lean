/-! give, need -/
section GV
variable {t w d n a b h nx x m o cn : Nat} {v : Int32} {c r c1 r1 c2 r2 : zM}
/-- what both sides have made of the class's unit -/
def CM (N m o' cn : Nat) (v : Int32) (c1 c2 : zM) : Prop := FS [7, 32, 33] c1 c2 ∧ (∀ i s, i ≠ N ∨ s ≠ 2 → gi c2 7 i s = gi c1 7 i s) ∧ gi c2 7 N 2 = nI o' ∧ (∀ i s, i ≠ N ∨ s ≠ m → gi c2 32 i s = gi c1 32 i s) ∧ gi c2 32 N m = nI cn ∧ (∀ i s, i ≠ N ∨ s ≠ 4 * m → gi c2 33 i s = gi c1 33 i s) ∧ (cn = 0 ∨ (cn = 1 ∧ zin v 1027 = true ∧ gi c2 33 N (4 * m) = v))
theorem own_new (hT : TPI t c r) (hW : WLI w d n c r) (hS : SHI a b c r) (hH : HII w n h nx c r) (hx : x < n) (hC : BC w x n nx h c c1) (hR : BR h r r1) (hm : m < 26) (ho : gi r 38 0 (113 * x + 64) = nI o) (o8 : o < 8) (hz : zfd (fun k => gi r 38 0 (113 * x + (65 + 6 * k))) (nI m) o = none) (hM : CM (12 * w + x) m (o + 1) cn v c1 c2) {v' : Int32} (hv' : cn = 1 → v' = v) (hr2 : r2 = wi (wi (wi (wi r1 38 0 (113 * x + 64) (nI (o + 1))) 38 0 (113 * x + (65 + 6 * o)) (nI m)) 38 0 (113 * x + (65 + 6 * o) + 1) (nI cn)) 38 0 (113 * x + (65 + 6 * o) + 2) v') : INV c2 r2 := by
  obtain ⟨f2, h7, e7, h32, e32, h33, hv⟩ := hM
  have hw := hW.2.2.1
  have hu1 : uC c1 (12 * w + x) = uC c (12 * w + x) := by rw [hC.1.1, if_neg (by have := hW.n12; omega)]
  have er : rR r1 38 0 x = rR r 38 0 x := rR_cg (fun s _ => FSa hR.2 0 _ (by decide) (by decide))
  have gs : ∀ s, s ≠ 113 * x + 64 → s ≠ 113 * x + (65 + 6 * o) → s ≠ 113 * x + (65 + 6 * o) + 1 → s ≠ 113 * x + (65 + 6 * o) + 2 → gi r2 38 0 s = gi r1 38 0 s := fun s q1 q2 q3 q4 => by
    rw [hr2, gi_wi, if_neg (by omega), gi_wi, if_neg (by omega), gi_wi, if_neg (by omega), gi_wi, if_neg (by omega)]
  refine INV_own hT hW hS hH hx hC hR f2 h7 (fun i s hi => h32 i s (Or.inl hi)) (fun i s hi => h33 i s (Or.inl hi)) ?_ (fun s hs => gs s (by omega) (by omega) (by omega) (by omega)) ?_
  · rw [hr2]
    exact FS_wa (by decide) (by decide) (FS_wa (by decide) (by decide) (FS_wa (by decide) (by decide) (FS_wa (by decide) (by decide) (FS_refl r1))))
  · have e64 : rR r 38 0 x 64 = nI o := by rw [rR_0 (by omega)]; exact ho
    refine OS_new (cn := cn) (v := v) (hW.OS hx) e64 o8 ?_ hm ?_ ?_ ?_ ?_ (fun s h1 h2 => ?_) ?_ ?_ (fun m' hm' hne => ⟨?_, fun i hi => ?_⟩)
    · rw [← hz]
      exact zfd_cg (fun k hk => rR_0 (by omega))
    · rw [rR_0 (by omega), hr2, gi_wi, if_neg (by omega), gi_wi, if_neg (by omega), gi_wi, if_neg (by omega), gi_wi, if_pos ⟨rfl, rfl, rfl⟩]
    · rw [rR_0 (by omega), hr2, gi_wi, if_neg (by omega), gi_wi, if_neg (by omega), gi_wi, if_pos ⟨rfl, rfl, rfl⟩]
    · rw [rR_0 (by omega), hr2, gi_wi, if_neg (by omega), gi_wi, if_pos ⟨rfl, rfl, by omega⟩]
    · rcases hv with q | ⟨q1, q2, q3⟩
      · exact Or.inl q
      · refine Or.inr ⟨q1, q2, ?_, ?_⟩
        · rw [rR_0 (by omega), hr2, gi_wi, if_pos ⟨rfl, rfl, by omega⟩, hv' q1]
        · rw [uC_tm (by omega)]; exact q3
    · rw [rR_0 (by omega), gs _ (by omega) (by omega) (by omega) (by omega), ← rR_0 (by omega), er]
    · rw [uC_7 (by omega)]; exact e7
    · rw [uC_tc hm]; exact e32
    · rw [uC_tc hm', h32 _ _ (Or.inr hne), ← uC_tc hm', hu1]
    · rw [uC_tm (by omega), h33 _ _ (Or.inr (by omega)), ← uC_tm (by omega), hu1]
theorem own_set {k : Nat} (hT : TPI t c r) (hW : WLI w d n c r) (hS : SHI a b c r) (hH : HII w n h nx c r) (hx : x < n) (hC : BC w x n nx h c c1) (hR : BR h r r1) (hm : m < 26) (ho : gi r 38 0 (113 * x + 64) = nI o) (o8 : o ≤ 8) (hz : zfd (fun k => gi r 38 0 (113 * x + (65 + 6 * k))) (nI m) o = some k) (hM : CM (12 * w + x) m o cn v c1 c2) {v' : Int32} (hv' : cn = 1 → v' = v) (hr2 : r2 = wi (wi r1 38 0 (113 * x + (65 + 6 * k) + 1) (nI cn)) 38 0 (113 * x + (65 + 6 * k) + 2) v') : INV c2 r2 := by
  obtain ⟨f2, h7, e7, h32, e32, h33, hv⟩ := hM
  have hw := hW.2.2.1
  have hk := (zfd_some hz).1
  have hu1 : uC c1 (12 * w + x) = uC c (12 * w + x) := by rw [hC.1.1, if_neg (by have := hW.n12; omega)]
  have er : rR r1 38 0 x = rR r 38 0 x := rR_cg (fun s _ => FSa hR.2 0 _ (by decide) (by decide))
  have gs : ∀ s, s ≠ 113 * x + (65 + 6 * k) + 1 → s ≠ 113 * x + (65 + 6 * k) + 2 → gi r2 38 0 s = gi r1 38 0 s := fun s q3 q4 => by
    rw [hr2, gi_wi, if_neg (by omega), gi_wi, if_neg (by omega)]
  refine INV_own hT hW hS hH hx hC hR f2 h7 (fun i s hi => h32 i s (Or.inl hi)) (fun i s hi => h33 i s (Or.inl hi)) ?_ (fun s hs => gs s (by omega) (by omega)) ?_
  · rw [hr2]
    exact FS_wa (by decide) (by decide) (FS_wa (by decide) (by decide) (FS_refl r1))
  · have e64 : rR r 38 0 x 64 = nI o := by rw [rR_0 (by omega)]; exact ho
    refine OS_set (cn := cn) (v := v) (hW.OS hx) e64 o8 (k0 := k) ?_ hm ?_ ?_ (fun s h1 h2 h3 h4 => ?_) ?_ ?_ (fun m' hm' hne => ⟨?_, fun i hi => ?_⟩)
    · rw [← hz]
      exact zfd_cg (fun k hk => rR_0 (by omega))
    · rw [rR_0 (by omega), hr2, gi_wi, if_neg (by omega), gi_wi, if_pos ⟨rfl, rfl, by omega⟩]
    · rcases hv with q | ⟨q1, q2, q3⟩
      · exact Or.inl q
      · refine Or.inr ⟨q1, q2, ?_, ?_⟩
        · rw [rR_0 (by omega), hr2, gi_wi, if_pos ⟨rfl, rfl, by omega⟩, hv' q1]
        · rw [uC_tm (by omega)]; exact q3
    · rw [rR_0 (by omega), gs _ (by omega) (by omega), ← rR_0 (by omega), er]
    · rw [uC_7 (by omega), e7, (hW.OS hx).2.1, e64]
    · rw [uC_tc hm]; exact e32
    · rw [uC_tc hm', h32 _ _ (Or.inr hne), ← uC_tc hm', hu1]
    · rw [uC_tm (by omega), h33 _ _ (Or.inr (by omega)), ← uC_tm (by omega), hu1]
end GV
/-- the class's unit after 'beginMember', and after a term -/
theorem CM_need {N m o : Nat} {v : Int32} {c1 : zM} {P : Prop} [Decidable P] (h7 : gi c1 7 N 2 = nI o) : CM N m (if P then o + 1 else o) 0 v c1 (wi (if P then wi c1 7 N 2 (nI (o + 1)) else c1) 32 N m 0) := by
  by_cases hP : P
  · rw [if_pos hP, if_pos hP]
    refine ⟨FS_wa (by decide) (by decide) (FS_wa (by decide) (by decide) (FS_refl c1)), fun i s hi => ?_, ?_, fun i s hi => ?_, ?_, fun i s hi => ?_, Or.inl rfl⟩
    · rw [gi_wi, if_neg (by omega), gi_wi, if_neg (by omega)]
    · rw [gi_wi, if_neg (by omega), gi_wi, if_pos ⟨rfl, rfl, rfl⟩]
    · rw [gi_wi, if_neg (by omega), gi_wi, if_neg (by omega)]
    · rw [gi_wi, if_pos ⟨rfl, rfl, rfl⟩]; rfl
    · rw [gi_wi, if_neg (by omega), gi_wi, if_neg (by omega)]
  · rw [if_neg hP, if_neg hP]
    refine ⟨FS_wa (by decide) (by decide) (FS_refl c1), fun i s hi => ?_, ?_, fun i s hi => ?_, ?_, fun i s hi => ?_, Or.inl rfl⟩
    · rw [gi_wi, if_neg (by omega)]
    · rw [gi_wi, if_neg (by omega)]; exact h7
    · rw [gi_wi, if_neg (by omega)]
    · rw [gi_wi, if_pos ⟨rfl, rfl, rfl⟩]; rfl
    · rw [gi_wi, if_neg (by omega)]
theorem CM_give {N m o : Nat} {v : Int32} {c1 c2 : zM} (h : CM N m o 0 0 c1 c2) (hv : zin v 1027 = true) : CM N m o 1 v c1 (wi (wi c2 33 N (4 * m + 0) v) 32 N m (nI (0 + 1))) := by
  obtain ⟨f2, h7, e7, h32, e32, h33, -⟩ := h
  refine ⟨FS_wa (by decide) (by decide) (FS_wa (by decide) (by decide) f2), fun i s hi => ?_, ?_, fun i s hi => ?_, ?_, fun i s hi => ?_, Or.inr ⟨rfl, hv, ?_⟩⟩
  · rw [gi_wi, if_neg (by omega), gi_wi, if_neg (by omega)]; exact h7 i s hi
  · rw [gi_wi, if_neg (by omega), gi_wi, if_neg (by omega)]; exact e7
  · rw [gi_wi, if_neg (by omega), gi_wi, if_neg (by omega)]; exact h32 i s hi
  · rw [gi_wi, if_pos ⟨rfl, rfl, rfl⟩]
  · rw [gi_wi, if_neg (by omega), gi_wi, if_neg (by omega)]; exact h33 i s hi
  · rw [gi_wi, if_neg (by omega), gi_wi, if_pos ⟨rfl, rfl, rfl⟩]
