/-! what is laid flat: one cell of both sides, and what is laid over it -/
def SRi (n : Nat) (c : zM) (kc : Nat) (r : zM) (j i : Nat) : Prop := ∃ a b, a < n ∧ b < 26 ∧ gi c kc 0 i = nI (26 * a + b) ∧ gi r 44 0 (5 * i + j) = nI a ∧ gi r 44 0 (5 * i + j + 1) = nI b ∧ bodyR (rR r 38 0 a) b
def RC (n : Nat) (c r : zM) (i : Nat) : Prop := ∃ k, k < 4 ∧ gi c 11 0 i = nI k ∧ gi r 44 0 (5 * i) = nI k ∧ (k = 1 ∨ k = 3 → SRi n c 12 r 1 i) ∧ (k = 3 → SRi n c 13 r 3 i)
theorem rR_38 {r r' : zM} (h : ∀ s, gi r' 38 0 s = gi r 38 0 s) (u : Nat) : rR r' 38 0 u = rR r 38 0 u := rR_cg (fun s _ => h _)
theorem SRi_cg {n kc j i : Nat} {c c' r r' : zM} (h : SRi n c kc r j i) (hc : gi c' kc 0 i = gi c kc 0 i) (h1 : gi r' 44 0 (5 * i + j) = gi r 44 0 (5 * i + j)) (h2 : gi r' 44 0 (5 * i + j + 1) = gi r 44 0 (5 * i + j + 1)) (h38 : ∀ s, gi r' 38 0 s = gi r 38 0 s) : SRi n c' kc r' j i := by
  obtain ⟨a, b, ha, hb, e1, e2, e3, e4⟩ := h
  exact ⟨a, b, ha, hb, by rw [hc]; exact e1, by rw [h1]; exact e2, by rw [h2]; exact e3, by rw [rR_38 h38]; exact e4⟩
theorem RC_cg {n i : Nat} {c c' r r' : zM} (h : RC n c r i) (h11 : gi c' 11 0 i = gi c 11 0 i) (h12 : gi c' 12 0 i = gi c 12 0 i) (h13 : gi c' 13 0 i = gi c 13 0 i) (hr : ∀ s, 5 * i ≤ s → s < 5 * i + 5 → gi r' 44 0 s = gi r 44 0 s) (h38 : ∀ s, gi r' 38 0 s = gi r 38 0 s) : RC n c' r' i := by
  obtain ⟨k, k4, e1, e2, e3, e4⟩ := h
  exact ⟨k, k4, by rw [h11]; exact e1, by rw [hr _ (by omega) (by omega)]; exact e2, fun q => SRi_cg (e3 q) h12 (hr _ (by omega) (by omega)) (hr _ (by omega) (by omega)) h38, fun q => SRi_cg (e4 q) h13 (hr _ (by omega) (by omega)) (hr _ (by omega) (by omega)) h38⟩
def EQc (i : Nat) (c c' r r' : zM) : Prop := (∀ j, j ≠ i → gi c' 11 0 j = gi c 11 0 j ∧ gi c' 12 0 j = gi c 12 0 j ∧ gi c' 13 0 j = gi c 13 0 j) ∧ ∀ s, s < 5 * i ∨ 5 * i + 5 ≤ s → gi r' 44 0 s = gi r 44 0 s
theorem EQc_refl {i : Nat} {c r : zM} : EQc i c c r r := ⟨fun _ _ => ⟨rfl, rfl, rfl⟩, fun _ _ => rfl⟩
theorem EQc_tr {i : Nat} {c c' c'' r r' r'' : zM} (h : EQc i c c' r r') (h' : EQc i c' c'' r' r'') : EQc i c c'' r r'' := ⟨fun j hj => ⟨(h'.1 j hj).1.trans (h.1 j hj).1, (h'.1 j hj).2.1.trans (h.1 j hj).2.1, (h'.1 j hj).2.2.trans (h.1 j hj).2.2⟩, fun s hs => (h'.2 s hs).trans (h.2 s hs)⟩
theorem RC_eq {n i j : Nat} {c c' r r' : zM} (h : RC n c r j) (hne : j ≠ i) (e : EQc i c c' r r') (g : FS [44] r r') : RC n c' r' j := RC_cg h (e.1 j hne).1 (e.1 j hne).2.1 (e.1 j hne).2.2 (fun s h1 h2 => e.2 s (by omega)) (fun s => FSa g 0 s (by decide) (by decide))
section FL
variable {n i a b : Nat} {c r : zM}
/-- a first source is written -/
theorem add0 (ha : a < n) (hb : b < 26) (hB : bodyR (rR r 38 0 a) b) : RC n (wi (wi c 11 0 i 1) 12 0 i (nI (26 * a + b))) (wi (wi (wi r 44 0 (5 * i) 1) 44 0 (5 * i + 1) (nI a)) 44 0 (5 * i + 2) (nI b)) i ∧ EQc i c (wi (wi c 11 0 i 1) 12 0 i (nI (26 * a + b))) r (wi (wi (wi r 44 0 (5 * i) 1) 44 0 (5 * i + 1) (nI a)) 44 0 (5 * i + 2) (nI b)) := by
  refine ⟨⟨1, by omega, ?_, ?_, fun _ => ⟨a, b, ha, hb, ?_, ?_, ?_, ?_⟩, fun q => by omega⟩, fun j hj => ⟨?_, ?_, ?_⟩, fun s hs => ?_⟩
  · rw [gi_wi, if_neg (by omega), gi_wi, if_pos ⟨rfl, rfl, rfl⟩]; rfl
  · rw [gi_wi, if_neg (by omega), gi_wi, if_neg (by omega), gi_wi, if_pos ⟨rfl, rfl, rfl⟩]; rfl
  · rw [gi_wi, if_pos ⟨rfl, rfl, rfl⟩]
  · rw [gi_wi, if_neg (by omega), gi_wi, if_pos ⟨rfl, rfl, rfl⟩]
  · rw [gi_wi, if_pos ⟨rfl, rfl, rfl⟩]
  · rw [rR_38 (r := r) (fun s => by rw [gi_wi, if_neg (by omega), gi_wi, if_neg (by omega), gi_wi, if_neg (by omega)])]; exact hB
  · rw [gi_wi, if_neg (by omega), gi_wi, if_neg (by omega)]
  · rw [gi_wi, if_neg (by omega), gi_wi, if_neg (by omega)]
  · rw [gi_wi, if_neg (by omega), gi_wi, if_neg (by omega)]
  · rw [gi_wi, if_neg (by omega), gi_wi, if_neg (by omega), gi_wi, if_neg (by omega)]
/-- a second source is written -/
theorem add1 (h1 : SRi n c 12 r 1 i) (ha : a < n) (hb : b < 26) (hB : bodyR (rR r 38 0 a) b) : RC n (wi (wi c 11 0 i 3) 13 0 i (nI (26 * a + b))) (wi (wi (wi r 44 0 (5 * i) 3) 44 0 (5 * i + 3) (nI a)) 44 0 (5 * i + 4) (nI b)) i ∧ EQc i c (wi (wi c 11 0 i 3) 13 0 i (nI (26 * a + b))) r (wi (wi (wi r 44 0 (5 * i) 3) 44 0 (5 * i + 3) (nI a)) 44 0 (5 * i + 4) (nI b)) := by
  refine ⟨⟨3, by omega, ?_, ?_, fun _ => SRi_cg h1 ?_ ?_ ?_ (fun s => ?_), fun q => ⟨a, b, ha, hb, ?_, ?_, ?_, ?_⟩⟩, fun j hj => ⟨?_, ?_, ?_⟩, fun s hs => ?_⟩
  · rw [gi_wi, if_neg (by omega), gi_wi, if_pos ⟨rfl, rfl, rfl⟩]; rfl
  · rw [gi_wi, if_neg (by omega), gi_wi, if_neg (by omega), gi_wi, if_pos ⟨rfl, rfl, rfl⟩]; rfl
  · rw [gi_wi, if_neg (by omega), gi_wi, if_neg (by omega)]
  · rw [gi_wi, if_neg (by omega), gi_wi, if_neg (by omega), gi_wi, if_neg (by omega)]
  · rw [gi_wi, if_neg (by omega), gi_wi, if_neg (by omega), gi_wi, if_neg (by omega)]
  · rw [gi_wi, if_neg (by omega), gi_wi, if_neg (by omega), gi_wi, if_neg (by omega)]
  · rw [gi_wi, if_pos ⟨rfl, rfl, rfl⟩]
  · rw [gi_wi, if_neg (by omega), gi_wi, if_pos ⟨rfl, rfl, rfl⟩]
  · rw [gi_wi, if_pos ⟨rfl, rfl, rfl⟩]
  · rw [rR_38 (r := r) (fun s => by rw [gi_wi, if_neg (by omega), gi_wi, if_neg (by omega), gi_wi, if_neg (by omega)])]; exact hB
  · rw [gi_wi, if_neg (by omega), gi_wi, if_neg (by omega)]
  · rw [gi_wi, if_neg (by omega), gi_wi, if_neg (by omega)]
  · rw [gi_wi, if_neg (by omega), gi_wi, if_neg (by omega)]
  · rw [gi_wi, if_neg (by omega), gi_wi, if_neg (by omega), gi_wi, if_neg (by omega)]
theorem addS (h : RC n c r i) (hi : i < 312) (h12 : n ≤ 12) (ha : a < n) (hb : b < 26) (hB : bodyR (rR r 38 0 a) b) : ok2 (fX0_addSource (nI i) (nI (26 * a + b)) c) (fX10_gives (nI (5 * i)) (nI a) (nI b) r) (fun c' r' => (RC n c' r' i ∧ EQc i c c' r r') ∧ FS [11, 12, 13] c c' ∧ FS [44] r r') := by
  refine ok2_fr ?_ (frX0_addSource (ks := [11, 12, 13]) (fun k h => h) (FS_refl c)) (frX10_gives (ks := [44]) (fun k h => h) (FS_refl r))
  have h0 := id h
  obtain ⟨k, k4, e1, e2, e3, e4⟩ := h
  have el : ∀ x : Nat, x < 5 → nI (5 * i) + nI x = nI (5 * i + x) := fun x _ => nI_add _ _
  unfold fX0_addSource fX10_gives fX10_gives_J73
  unfold fX0_addSource_J19 fX10_gives_J19 fX10_gives_J74
  rw [l1, l2, l3, l4, l0, el 1 (by omega), el 2 (by omega), el 3 (by omega), el 4 (by omega), zn_n (by omega), zn_n (by omega), zn_n (by omega), zn_n (by omega), zn_n (by omega), zn_n (by omega), e1, e2]
  simp (disch := omega) only [zo, if_true]
  have nn : ∀ x y : Nat, x < 5 → y < 5 → x ≠ y → ¬ nI x = nI y := fun x y hx hy hne q => hne ((nIeq (by omega) (by omega)).mp q)
  match k, k4, e1, e2, e3, e4 with
  | 0, _, e1, e2, e3, e4 =>
    rw [if_pos rfl, if_pos rfl]
    exact ok2_some (add0 ha hb hB)
  | 2, _, e1, e2, e3, e4 =>
    rw [if_neg (nn 2 0 (by omega) (by omega) (by omega)), if_neg (nn 2 0 (by omega) (by omega) (by omega)), if_pos rfl, if_pos rfl]
    exact ok2_some (add0 ha hb hB)
  | 1, _, e1, e2, e3, e4 =>
    obtain ⟨a', b', ha', hb', f1, f2, f3, f4⟩ := id (e3 (Or.inl rfl))
    rw [if_neg (nn 1 0 (by omega) (by omega) (by omega)), if_neg (nn 1 0 (by omega) (by omega) (by omega)), if_neg (nn 1 2 (by omega) (by omega) (by omega)), if_neg (nn 1 2 (by omega) (by omega) (by omega)), if_pos rfl, f1, f2, f3]
    by_cases q : a' = a ∧ b' = b
    · obtain ⟨rfl, rfl⟩ := q
      rw [if_pos rfl, if_pos rfl, if_pos rfl, if_neg (nn 1 0 (by omega) (by omega) (by omega))]
      exact ok2_some ⟨h0, EQc_refl⟩
    · have q1 : ¬ nI (26 * a' + b') = nI (26 * a + b) := fun z => q (by have := (nIeq (by omega) (by omega)).mp z; omega)
      have q2 : (if nI a' = nI a then if nI b' = nI b then if nI 1 = nI 0 then if nI 1 = nI 1 then some (wi (wi (wi r 44 0 (5 * i) (nI 3)) 44 0 (5 * i + 3) (nI a)) 44 0 (5 * i + 4) (nI b)) else some r else some r else if nI 1 = nI 1 then some (wi (wi (wi r 44 0 (5 * i) (nI 3)) 44 0 (5 * i + 3) (nI a)) 44 0 (5 * i + 4) (nI b)) else some r else if nI 1 = nI 1 then some (wi (wi (wi r 44 0 (5 * i) (nI 3)) 44 0 (5 * i + 3) (nI a)) 44 0 (5 * i + 4) (nI b)) else some r) = some (wi (wi (wi r 44 0 (5 * i) (nI 3)) 44 0 (5 * i + 3) (nI a)) 44 0 (5 * i + 4) (nI b)) := by
        rw [if_pos (show nI 1 = nI 1 from rfl)]
        by_cases z1 : nI a' = nI a
        · have z2 : ¬ nI b' = nI b := fun z => q ⟨(nIeq (by omega) (by omega)).mp z1, (nIeq (by omega) (by omega)).mp z⟩
          rw [if_pos z1, if_neg z2]
        · rw [if_neg z1]
      rw [if_neg q1, q2]
      exact ok2_some (add1 (e3 (Or.inl rfl)) ha hb hB)
  | 3, _, e1, e2, e3, e4 =>
    rw [if_neg (nn 3 0 (by omega) (by omega) (by omega)), if_neg (nn 3 0 (by omega) (by omega) (by omega)), if_neg (nn 3 2 (by omega) (by omega) (by omega)), if_neg (nn 3 2 (by omega) (by omega) (by omega)), if_neg (nn 3 1 (by omega) (by omega) (by omega)), if_neg (nn 3 1 (by omega) (by omega) (by omega)), if_neg (nn 1 0 (by omega) (by omega) (by omega))]
    have q2 : (if gi r 44 0 (5 * i + 1) = nI a then if gi r 44 0 (5 * i + 2) = nI b then some r else some r else some r) = some r := by
      split
      · split <;> rfl
      · rfl
    rw [q2]
    exact ok2_some ⟨h0, EQc_refl⟩
/-- the reference alone -/
theorem gives1 {x y : Int32} (hi : i < 312) : ok (fX10_gives (nI (5 * i)) x y r) (fun r' => (∀ s, s < 5 * i ∨ 5 * i + 5 ≤ s → gi r' 44 0 s = gi r 44 0 s) ∧ FS [44] r r') := by
  refine ok_fr ?_ (frX10_gives (ks := [44]) (fun k h => h) (FS_refl r))
  have el : ∀ x : Nat, x < 5 → nI (5 * i) + nI x = nI (5 * i + x) := fun x _ => nI_add _ _
  unfold fX10_gives fX10_gives_J73
  unfold fX10_gives_J19 fX10_gives_J74
  rw [l1, l2, l3, l4, l0, el 1 (by omega), el 2 (by omega), el 3 (by omega), el 4 (by omega), zn_n (by omega), zn_n (by omega), zn_n (by omega), zn_n (by omega), zn_n (by omega)]
  simp (disch := omega) only [zo, if_true]
  have w1 : ok (some (wi (wi (wi r 44 0 (5 * i) (nI 1)) 44 0 (5 * i + 1) x) 44 0 (5 * i + 2) y)) (fun r' => ∀ s, s < 5 * i ∨ 5 * i + 5 ≤ s → gi r' 44 0 s = gi r 44 0 s) := ok_some (fun s hs => by rw [gi_wi, if_neg (by omega), gi_wi, if_neg (by omega), gi_wi, if_neg (by omega)])
  have w2 : ok (some (wi (wi (wi r 44 0 (5 * i) (nI 3)) 44 0 (5 * i + 3) x) 44 0 (5 * i + 4) y)) (fun r' => ∀ s, s < 5 * i ∨ 5 * i + 5 ≤ s → gi r' 44 0 s = gi r 44 0 s) := ok_some (fun s hs => by rw [gi_wi, if_neg (by omega), gi_wi, if_neg (by omega), gi_wi, if_neg (by omega)])
  have w3 : ok (some r) (fun r' => ∀ s, s < 5 * i ∨ 5 * i + 5 ≤ s → gi r' 44 0 s = gi r 44 0 s) := ok_some (fun s hs => rfl)
  exact ok_if (fun _ => w1) (fun _ => ok_if (fun _ => w1) (fun _ => ok_if (fun _ => ok_if (fun _ => ok_if (fun _ => ok_if (fun _ => w2) (fun _ => w3)) (fun _ => w3)) (fun _ => ok_if (fun _ => w2) (fun _ => w3))) (fun _ => ok_if (fun _ => w2) (fun _ => w3))))
theorem givesA {g : Nat} (hi : i < 312) (hg : g < 312) : ok (fX10_givesAll (nI (5 * i)) (nI (5 * g)) r) (fun r' => (∀ s, s < 5 * i ∨ 5 * i + 5 ≤ s → gi r' 44 0 s = gi r 44 0 s) ∧ FS [44] r r') := by
  refine ok_fr ?_ (frX10_givesAll (ks := [44]) (fun k h => h) (FS_refl r))
  have el : ∀ x : Nat, x < 5 → nI (5 * g) + nI x = nI (5 * g + x) := fun x _ => nI_add _ _
  have e67 : ∀ r1 : zM, (∀ s, s < 5 * i ∨ 5 * i + 5 ≤ s → gi r1 44 0 s = gi r 44 0 s) → ok (fX10_givesAll_J67 (nI (5 * i)) (nI (5 * g)) r1) (fun r' => ∀ s, s < 5 * i ∨ 5 * i + 5 ≤ s → gi r' 44 0 s = gi r 44 0 s) := fun r1 h1 => by
    unfold fX10_givesAll_J67
    rw [l3, l4, el 3 (by omega), el 4 (by omega), zo _ (by omega) (by omega), zo _ (by omega) (by omega), zo _ (by omega) (by omega)]
    refine ok_if (fun _ => ok_bind (gives1 hi) (fun r2 h2 => ok_some (fun s hs => (h2.1 s hs).trans (h1 s hs)))) (fun _ => ok_some h1)
  have e46 : ∀ r1 : zM, (∀ s, s < 5 * i ∨ 5 * i + 5 ≤ s → gi r1 44 0 s = gi r 44 0 s) → ok (fX10_givesAll_J46 (nI (5 * i)) (nI (5 * g)) r1) (fun r' => ∀ s, s < 5 * i ∨ 5 * i + 5 ≤ s → gi r' 44 0 s = gi r 44 0 s) := fun r1 h1 => by
    unfold fX10_givesAll_J46
    rw [l1, l2, el 1 (by omega), el 2 (by omega), zo _ (by omega) (by omega), zo _ (by omega) (by omega)]
    exact ok_bind (gives1 hi) (fun r2 h2 => e67 r2 (fun s hs => (h2.1 s hs).trans (h1 s hs)))
  have e26 : ∀ r1 : zM, (∀ s, s < 5 * i ∨ 5 * i + 5 ≤ s → gi r1 44 0 s = gi r 44 0 s) → ok (fX10_givesAll_J26 (nI (5 * i)) (nI (5 * g)) r1) (fun r' => ∀ s, s < 5 * i ∨ 5 * i + 5 ≤ s → gi r' 44 0 s = gi r 44 0 s) := fun r1 h1 => by
    unfold fX10_givesAll_J26
    rw [zo _ (by omega) (by omega), zo _ (by omega) (by omega)]
    exact ok_if (fun _ => e46 r1 h1) (fun _ => ok_if (fun _ => e46 r1 h1) (fun _ => e67 r1 h1))
  unfold fX10_givesAll
  rw [zo _ (by omega) (by omega), zo _ (by omega) (by omega), zo _ (by omega) (by omega), zn_n (by omega), zn_n (by omega)]
  exact ok_if (fun _ => ok_if (fun _ => e26 _ (fun s hs => by rw [gi_wi, if_neg (by omega)])) (fun _ => e26 _ (fun s hs => rfl))) (fun _ => e26 _ (fun s hs => rfl))
theorem layO {g : Nat} (hg : RC n c r g) (h : RC n c r i) (hne : g ≠ i) (hi : i < 312) (hg3 : g < 312) (h12 : n ≤ 12) : ok2 (fX0_layOver (nI g) (nI i) c) (fX10_givesAll (nI (5 * i)) (nI (5 * g)) r) (fun c' r' => (RC n c' r' i ∧ EQc i c c' r r') ∧ FS [11, 12, 13] c c' ∧ FS [44] r r') := by
  refine ok2_fr ?_ (frX0_layOver (ks := [11, 12, 13]) (fun k h => h) (FS_refl c)) (frX10_givesAll (ks := [44]) (fun k h => h) (FS_refl r))
  have nn : ∀ x y : Nat, x < 5 → y < 5 → x ≠ y → ¬ nI x = nI y := fun x y hx hy hne q => hne ((nIeq (by omega) (by omega)).mp q)
  have el : ∀ x : Nat, x < 5 → nI (5 * g) + nI x = nI (5 * g + x) := fun x _ => nI_add _ _
  obtain ⟨k, k4, e1, e2, e3, e4⟩ := id hg
  unfold fX0_layOver fX10_givesAll
  rw [zo _ (by omega) (by omega), zo _ (by omega) (by omega), zo _ (by omega) (by omega), zo _ (by omega) (by omega), zo _ (by omega) (by omega), zo _ (by omega) (by omega), zn_n (by omega), zn_n (by omega), zn_n (by omega), zn_n (by omega), e1, e2]
  unfold fX0_layOver_J28 fX10_givesAll_J26
  match k, k4, e1, e2, e3, e4 with
  | 0, _, e1, e2, e3, e4 =>
    unfold fX0_layOver_J49 fX10_givesAll_J67
    simp (decide := true) (disch := omega) only [zo, zn_n, e2, if_true, if_false]
    exact ok2_some ⟨h, EQc_refl⟩
  | 2, _, e1, e2, e3, e4 =>
    unfold fX0_layOver_J49 fX10_givesAll_J67
    have e2' : gi (wi r 44 0 (5 * i) 2) 44 0 (5 * g) = nI 2 := by rw [gi_wi, if_neg (by omega)]; exact e2
    obtain ⟨k', k4', f1, f2, f3, f4⟩ := id h
    simp (decide := true) (disch := omega) only [zo, zn_n, e2, e2', f1, f2, if_true, if_false]
    by_cases q : k' = 0
    · rw [q, if_pos (show nI 0 = 0 from rfl), if_pos (show nI 0 = 0 from rfl)]
      refine ok2_some ⟨⟨2, by omega, ?_, ?_, fun q => by omega, fun q => by omega⟩, fun j hj => ⟨?_, ?_, ?_⟩, fun s hs => ?_⟩
      · rw [gi_wi, if_pos ⟨rfl, rfl, rfl⟩]; rfl
      · rw [gi_wi, if_pos ⟨rfl, rfl, rfl⟩]; rfl
      · rw [gi_wi, if_neg (by omega)]
      · rw [gi_wi, if_neg (by omega)]
      · rw [gi_wi, if_neg (by omega)]
      · rw [gi_wi, if_neg (by omega)]
    · rw [l0, if_neg (nn k' 0 (by omega) (by omega) q), if_neg (nn k' 0 (by omega) (by omega) q)]
      exact ok2_some ⟨h, EQc_refl⟩
  | 1, _, e1, e2, e3, e4 =>
    obtain ⟨a', b', ha', hb', f1, f2, f3, f4⟩ := id (e3 (Or.inl rfl))
    unfold fX0_layOver_J38 fX10_givesAll_J46
    rw [l1, l2, el 1 (by omega), el 2 (by omega)]
    simp (decide := true) (disch := omega) only [zo, zn_n, e2, f1, f2, f3, if_true, if_false]
    refine ok2_bind (addS h hi h12 ha' hb' f4) (fun c1 r1 h1 => ?_)
    unfold fX0_layOver_J49 fX10_givesAll_J67
    have e2' : gi r1 44 0 (5 * g) = nI 1 := by rw [h1.1.2.2 _ (by omega)]; exact e2
    simp (decide := true) (disch := omega) only [zo, zn_n, e2', if_true, if_false]
    exact ok2_some h1.1
  | 3, _, e1, e2, e3, e4 =>
    obtain ⟨a', b', ha', hb', f1, f2, f3, f4⟩ := id (e3 (Or.inr rfl))
    obtain ⟨a2, b2, ha2, hb2, g1, g2, g3, g4⟩ := id (e4 rfl)
    unfold fX0_layOver_J38 fX10_givesAll_J46
    rw [l1, l2, el 1 (by omega), el 2 (by omega)]
    simp (decide := true) (disch := omega) only [zo, zn_n, e2, f1, f2, f3, if_true, if_false]
    refine ok2_bind (addS h hi h12 ha' hb' f4) (fun c1 r1 h1 => ?_)
    unfold fX0_layOver_J49 fX10_givesAll_J67
    have e2' : gi r1 44 0 (5 * g) = nI 3 := by rw [h1.1.2.2 _ (by omega)]; exact e2
    have g1' : gi c1 13 0 g = nI (26 * a2 + b2) := by rw [(h1.1.2.1 g hne).2.2]; exact g1
    have g2' : gi r1 44 0 (5 * g + 3) = nI a2 := by rw [h1.1.2.2 _ (by omega)]; exact g2
    have g3' : gi r1 44 0 (5 * g + 4) = nI b2 := by rw [h1.1.2.2 _ (by omega)]; exact g3
    rw [l3, l4, el 3 (by omega), el 4 (by omega)]
    simp (decide := true) (disch := omega) only [zo, zn_n, e2', g1', g2', g3', if_true, if_false]
    have hB : bodyR (rR r1 38 0 a2) b2 := by rw [rR_38 (r := r) (fun s => FSa h1.2.2 0 s (by decide) (by decide))]; exact g4
    refine ok2_bind (addS h1.1.1 hi h12 ha2 hb2 hB) (fun c2 r2 h2 => ok2_some ⟨h2.1.1, EQc_tr h1.1.2 h2.1.2⟩)
end FL
