/-! the world that is being told, on both sides -/
def KSc : List Nat := [1402, 1403, 1404, 1405, 1406, 5, 7, 8, 30, 31, 32, 33, 34]
def KRr : List Nat := [2008, 2009, 2010, 2011, 39]
def DF (d : Nat) (c c' : zM) : Prop := FS KSc c c' ∧ (∀ q, q < 12 * d ∨ 12 * d + 12 ≤ q → uC c' q = uC c q) ∧ ∀ i, i ≠ d → gi c' 8 i 1 = gi c 8 i 1
theorem DF_refl {d : Nat} (c : zM) : DF d c c := ⟨FS_refl c, fun _ _ => rfl, fun _ _ => rfl⟩
theorem DF_tr {d : Nat} {c c' c'' : zM} (h : DF d c c') (h' : DF d c' c'') : DF d c c'' := ⟨FS_tr h.1 h'.1, fun q hq => (h'.2.1 q hq).trans (h.2.1 q hq), fun i hi => (h'.2.2 i hi).trans (h.2.2 i hi)⟩
theorem DF_lx {d : Nat} {c c' : zM} (f : FS [1402, 1403, 1404, 1405, 1406] c c') : DF d c c' := ⟨FS_mono (zss (by decide)) f, fun q _ => uC_fs f (by decide) q, fun i _ => FSa f i 1 (by decide) (by decide)⟩
theorem DF_u {d u : Nat} {c c' : zM} (hu : u < 12) (f : FS [5, 7, 30, 31, 32, 33, 34] c c') (h : ∀ q, q ≠ 12 * d + u → uC c' q = uC c q) : DF d c c' := ⟨FS_mono (zss (by decide)) f, fun q hq => h q (by omega), fun i _ => FSa f i 1 (by decide) (by decide)⟩
/-- unit n of world d is being told -/
def DU (d n : Nat) (c r : zM) : Prop := gr c 4 7 = some d ∧ gi c 8 d 1 = nI n ∧ gi r 39 0 1356 = nI n ∧ n < 12 ∧ RelW (n + 1) (fun u => uC c (12 * d + u)) (fun u => rR r 39 0 u)
theorem DU_fs {d n : Nat} {c c' r r' : zM} (h : DU d n c r) (f : FS [1402, 1403, 1404, 1405, 1406] c c') (g : FS [2008, 2009, 2010, 2011] r r') : DU d n c' r' := by
  obtain ⟨h1, h2, h3, h4, h5⟩ := h
  exact ⟨by rw [FSr f 7 (by decide)]; exact h1, by rw [FSa f d 1 (by decide) (by decide)]; exact h2, by rw [FSa g 0 _ (by decide) (by decide)]; exact h3, h4, RelW_cg h5 (fun u _ => uC_fs f (by decide) _) (fun u _ => rR_cg (fun s _ => FSa g 0 _ (by decide) (by decide)))⟩
theorem DU.ru {d n : Nat} {c r : zM} (h : DU d n c r) : RU n (uC c (12 * d + n)) (rR r 39 0 n) := (h.2.2.2.2.2 n (by omega)).1
theorem DU_act {d n : Nat} {c c' r r' : zM} (h : DU d n c r) (f : FS [5, 7, 30, 31, 32, 33, 34] c c') (hc : ∀ q, q ≠ 12 * d + n → uC c' q = uC c q) (g : FS [39] r r') (hr : ∀ s, s < 113 * n ∨ 113 * n + 113 ≤ s → gi r' 39 0 s = gi r 39 0 s) (hU : RU n (uC c' (12 * d + n)) (rR r' 39 0 n)) (h0 : rR r' 39 0 n 0 = rR r 39 0 n 0) (hp : ∀ k, k < zn (rR r' 39 0 n 2) → rR r 39 0 (zn (rR r' 39 0 n (3 + k))) 0 = 0 ∧ rR r 39 0 n 0 = 0) (hu : ∀ k, k < zn (rR r' 39 0 n 7) → rR r 39 0 (zn (rR r' 39 0 n (8 + 14 * k))) 0 = 1) : DU d n c' r' := by
  obtain ⟨h1, h2, h3, h4, h5⟩ := h
  refine ⟨by rw [FSr f 7 (by decide)]; exact h1, by rw [FSa f d 1 (by decide) (by decide)]; exact h2, by rw [hr _ (by omega)]; exact h3, h4, RelW_act h5 (x := n) (by omega) (fun u _ hne => hc _ (by omega)) (fun u hu2 hne => rR_cg (fun s hs => ?_)) hU h0 hp hu⟩
  rw [Nat.zero_add]
  exact hr _ (by omega)
theorem DU_own {d n : Nat} {c c' r r' : zM} (h : DU d n c r) (f : FS [7, 32, 33] c c') (h7 : ∀ i s, i ≠ 12 * d + n ∨ s ≠ 2 → gi c' 7 i s = gi c 7 i s) (h32 : ∀ i s, i ≠ 12 * d + n → gi c' 32 i s = gi c 32 i s) (h33 : ∀ i s, i ≠ 12 * d + n → gi c' 33 i s = gi c 33 i s) (g : FS [39] r r') (hr : ∀ s, s < 113 * n + 64 ∨ 113 * n + 113 ≤ s → gi r' 39 0 s = gi r 39 0 s) (hO : OS (uC c' (12 * d + n)) (rR r' 39 0 n)) : DU d n c' r' ∧ DF d c c' := by
  obtain ⟨u1, u2⟩ := uC_own f h7 h32 h33
  have hRU := h.ru
  have rs : ∀ s, s < 64 → rR r' 39 0 n s = rR r 39 0 n s := fun s h1 => by
    rw [rR_0 (by omega), rR_0 (by omega)]
    exact hr _ (by omega)
  refine ⟨DU_act h (FS_mono (zss (by decide)) f) u1 g (fun s hs => hr s (by omega)) ⟨⟨?_, ?_, ?_, ?_⟩, ?_, ?_, hO⟩ (rs 0 (by omega)) (fun k hk => ?_) (fun k hk => ?_), DF_u h.2.2.2.1 (FS_mono (zss (by decide)) f) u1⟩
  · rw [rs 0 (by omega)]; exact hRU.1.1
  · rw [rs 0 (by omega), u2 0 (by omega) (by omega)]; exact hRU.1.2.1
  · rw [rs 1 (by omega)]; exact hRU.1.2.2.1
  · rw [rs 1 (by omega), u2 1 (by omega) (by omega)]; exact hRU.1.2.2.2
  · exact PS_cg hRU.2.1 (fun s h1 h2 => rs s (by omega)) (fun s h1 h2 => u2 s (by omega) (by omega))
  · exact US_cg hRU.2.2.1 (fun s h1 h2 => rs s (by omega)) (fun s h1 h2 => u2 s (by omega) (by omega)) (fun s h1 h2 => u2 s (by omega) (by omega))
  · rw [rs 2 (by omega)] at hk
    have hk4 := hRU.2.1.lt hk
    rw [rs _ (by omega)]
    exact (h.2.2.2.2.2 n (by omega)).2.1 k hk
  · rw [rs 7 (by omega)] at hk
    have hk4 := hRU.2.2.1.lt hk
    rw [rs _ (by omega)]
    exact (h.2.2.2.2.2 n (by omega)).2.2 k hk
theorem OS_zfd {c r : Nat → Int32} {o k m : Nat} (h : OS c r) (ho : r 64 = nI o) (h8 : o ≤ 8) (hk : k < o) (em : r (65 + 6 * k) = nI m) : zfd (fun k => r (65 + 6 * k)) (nI m) o = some k := by
  refine zfd_is hk em (fun j hj => ?_)
  have := h.2.2.2.1 j k hj (by rw [ho, zn_n (by omega)]; omega)
  rw [em] at this
  exact this
theorem OS_term {c r c' r' : Nat → Int32} {o k m cn v : Nat} (h : OS c r) (ho : r 64 = nI o) (h8 : o ≤ 8) (hk : k < o) (em : r (65 + 6 * k) = nI m) (hm : m < 26) (hcn : r (66 + 6 * k) = nI cn) (h4 : cn < 4) (hv : v < 1027) (rb : r' (66 + 6 * k) = nI (cn + 1)) (rv : r' (67 + 6 * k + cn) = nI v) (ro : ∀ s, 64 ≤ s → s < 113 → s ≠ 66 + 6 * k → s ≠ 67 + 6 * k + cn → r' s = r s) (c2 : c' 2 = c 2) (cm : c' (17 + m) = nI (cn + 1)) (cv : c' (43 + (4 * m + cn)) = nI v) (co : ∀ m', m' < 26 → m' ≠ m → c' (17 + m') = c (17 + m')) (cw : ∀ j, j < 104 → j ≠ 4 * m + cn → c' (43 + j) = c (43 + j)) : OS c' r' := by
  have hz := OS_zfd h ho h8 hk em
  obtain ⟨h1, h2, h3, h4', h5⟩ := h
  have ez9 : zn (r 64) = o := by rw [ho, zn_n (by omega)]
  have r64 : r' 64 = r 64 := ro 64 (by omega) (by omega) (by omega) (by omega)
  have el : ∀ j, j < o → r' (65 + 6 * j) = r (65 + 6 * j) := fun j hj => ro _ (by omega) (by omega) (by omega) (by omega)
  rw [ez9] at h3 h4'
  refine ⟨by rw [r64]; exact h1, by rw [r64, c2]; exact h2, fun j hj => ?_, fun i j hij hj => ?_, fun m' hm' => ?_⟩
  · rw [r64, ez9] at hj
    obtain ⟨a1, a2, a3⟩ := h3 j hj
    rw [el j hj]
    by_cases e : j = k
    · subst e
      rw [rb]
      refine ⟨a1, zin_n (by omega) (by omega), fun i hi => ?_⟩
      rw [zn_n (by omega)] at hi
      rw [em, zn_n (by omega)]
      by_cases e2 : i = cn
      · subst e2
        rw [rv]
        exact ⟨zin_n (by omega) (by omega), cv⟩
      · rw [ro (67 + 6 * j + i) (by omega) (by omega) (by omega) (by omega), cw (4 * m + i) (by omega) (by omega)]
        have := a3 i (by rw [hcn, zn_n (by omega)]; omega)
        rw [em, zn_n (by omega)] at this
        exact this
    · rw [ro (66 + 6 * j) (by omega) (by omega) (by omega) (by omega)]
      refine ⟨a1, a2, fun i hi => ?_⟩
      have i5 := (zin_z a2).2.1
      obtain ⟨b1, b2⟩ := a3 i hi
      obtain ⟨mj, mj1, mj2, mj3⟩ := zin_e a1
      have ne : mj ≠ m := fun q => by
        rcases Nat.lt_or_gt_of_ne e with w | w
        · exact h4' j k w hk (by rw [mj2, em, q])
        · exact h4' k j w hj (by rw [mj2, em, q])
      rw [ro (67 + 6 * j + i) (by omega) (by omega) (by omega) (by omega)]
      rw [mj2, zn_n mj3] at b2 ⊢
      exact ⟨b1, by rw [cw (4 * mj + i) (by omega) (by omega)]; exact b2⟩
  · rw [r64, ez9] at hj
    rw [el i (by omega), el j hj]
    exact h4' i j hij hj
  · have ec : ∀ y, zfd (fun k => r' (65 + 6 * k)) y o = zfd (fun k => r (65 + 6 * k)) y o := fun y => zfd_cg (fun k hk => el k hk)
    unfold cntR
    rw [r64, ez9, ec]
    by_cases e : m' = m
    · subst e
      rw [hz]
      show _ = r' (66 + 6 * k)
      rw [cm, rb]
    · rw [co m' hm' e, h5 m' hm']
      unfold cntR
      rw [ez9]
      rcases hq : zfd (fun k => r (65 + 6 * k)) (nI m') o with _ | k'
      · rfl
      · obtain ⟨i1, i2, i3⟩ := zfd_some hq
        have ne : k' ≠ k := fun q => by
          rw [q, em] at i2
          exact e ((nIeq (by omega) (by omega)).mp i2).symm
        show r (66 + 6 * k') = r' (66 + 6 * k')
        rw [ro (66 + 6 * k') (by omega) (by omega) (by omega) (by omega)]
section LX
variable {t : Nat} {T : Nat → Nat}
def RD (t : Nat) (T : Nat → Nat) (d n : Nat) (G : zM → Prop) (c r : zM) (a : Int32 × zM) (r' : zM) : Prop := DF d c a.2 ∧ FS KRr r r' ∧ ((a.1 = 1 ∧ ∃ p q, LC t T p q a.2 ∧ LR t T p r' ∧ DU d n a.2 r' ∧ G r') ∨ (a.1 = 0 ∧ ∃ F, gi a.2 4 0 5 = F ∧ F ≠ 0 ∧ WR t T F r'))
theorem FL_0 (hB : TB t T) {p v : Nat} (hp : p ≤ t) (hv : 0 < v) (hv8 : v < 8) : FL p v ≠ 0 := nI_ne0 (by omega) (by have := hB.1; omega)
theorem cRef {p q v : Nat} {c : zM} (h : LC t T p q c) : fX4_refuse (nI v) c = some (0, wi c 4 0 5 (FL p v)) := by
  unfold fX4_refuse
  rw [h.2.2.1, l8, pk_mul, nI_add]
  rfl
theorem fRef {c : zM} {F : Int32} : FS [1402, 1403, 1404, 1405, 1406] c (wi c 4 0 5 F) ∧ gi (wi c 4 0 5 F) 4 0 5 = F := ⟨FS_wf (by decide) (by decide) (FS_refl c), by rw [gi_wi, if_pos ⟨rfl, rfl, rfl⟩]⟩
/-- the own member that is being told -/
def OE (n o m i : Nat) (r : zM) : Prop := gi r 39 0 (113 * n + 64) = nI (o + 1) ∧ o < 8 ∧ m < 26 ∧ gi r 39 0 (113 * n + (65 + 6 * o)) = nI m ∧ gi r 39 0 (113 * n + (66 + 6 * o)) = nI i
theorem OE_fs {n o m i : Nat} {r r' : zM} (h : OE n o m i r) (g : FS [2008, 2009, 2010, 2011] r r') : OE n o m i r' := by
  obtain ⟨h1, h2, h3, h4, h5⟩ := h
  exact ⟨by rw [FSa g 0 _ (by decide) (by decide)]; exact h1, h2, h3, by rw [FSa g 0 _ (by decide) (by decide)]; exact h4, by rw [FSa g 0 _ (by decide) (by decide)]; exact h5⟩
theorem OE_c {d n o m i : Nat} {c r : zM} (h : DU d n c r) (hO : OE n o m i r) : gi c 32 (12 * d + n) m = nI i := by
  obtain ⟨h1, h2, h3, h4, h5⟩ := hO
  have hOS := h.ru.2.2.2
  have hz := OS_zfd hOS (o := o + 1) (k := o) (m := m) (by rw [rR_0 (by omega)]; exact h1) (by omega) (by omega) (by rw [rR_0 (by omega)]; exact h4)
  have := hOS.2.2.2.2 m h3
  rw [uC_tc h3] at this
  rw [this]
  unfold cntR
  rw [show zn (rR r 39 0 n 64) = o + 1 by rw [rR_0 (by omega), h1, zn_n (by omega)], hz]
  show rR r 39 0 n (66 + 6 * o) = nI i
  rw [rR_0 (by omega)]; exact h5
theorem term_put {d n o m i v : Nat} {c r : zM} (h : DU d n c r) (hO : OE n o m i r) (hi : i < 4) (hv : v < 1027) : DU d n (wi (wi c 33 (12 * d + n) (4 * m + i) (nI v)) 32 (12 * d + n) m (nI (i + 1))) (wi (wi r 39 0 (113 * n + (67 + 6 * o + i)) (nI v)) 39 0 (113 * n + (66 + 6 * o)) (nI (i + 1))) ∧ DF d c (wi (wi c 33 (12 * d + n) (4 * m + i) (nI v)) 32 (12 * d + n) m (nI (i + 1))) ∧ OE n o m (i + 1) (wi (wi r 39 0 (113 * n + (67 + 6 * o + i)) (nI v)) 39 0 (113 * n + (66 + 6 * o)) (nI (i + 1))) := by
  obtain ⟨h1, h2, h3, h4, h5⟩ := id hO
  have hOS := h.ru.2.2.2
  generalize hc' : wi (wi c 33 (12 * d + n) (4 * m + i) (nI v)) 32 (12 * d + n) m (nI (i + 1)) = c'
  generalize hr' : wi (wi r 39 0 (113 * n + (67 + 6 * o + i)) (nI v)) 39 0 (113 * n + (66 + 6 * o)) (nI (i + 1)) = r'
  have f : FS [7, 32, 33] c c' := by rw [← hc']; exact FS_wa (by decide) (by decide) (FS_wa (by decide) (by decide) (FS_refl c))
  have g : FS [39] r r' := by rw [← hr']; exact FS_wa (by decide) (by decide) (FS_wa (by decide) (by decide) (FS_refl r))
  have gr' : ∀ s, gi r' 39 0 s = if s = 113 * n + (66 + 6 * o) then nI (i + 1) else if s = 113 * n + (67 + 6 * o + i) then nI v else gi r 39 0 s := fun s => by
    rw [← hr', gi_wi]
    by_cases e : s = 113 * n + (66 + 6 * o)
    · rw [if_pos ⟨rfl, rfl, e⟩, if_pos e]
    · rw [if_neg (fun q => e q.2.2), if_neg e, gi_wi]
      by_cases e2 : s = 113 * n + (67 + 6 * o + i)
      · rw [if_pos ⟨rfl, rfl, e2⟩, if_pos e2]
      · rw [if_neg (fun q => e2 q.2.2), if_neg e2]
  have ru : ∀ s, s < 113 → rR r' 39 0 n s = if s = 66 + 6 * o then nI (i + 1) else if s = 67 + 6 * o + i then nI v else rR r 39 0 n s := fun s hs => by
    rw [rR_0 hs, gr']
    by_cases e : s = 66 + 6 * o
    · rw [if_pos (by omega), if_pos e]
    · rw [if_neg (by omega), if_neg e]
      by_cases e2 : s = 67 + 6 * o + i
      · rw [if_pos (by omega), if_pos e2]
      · rw [if_neg (by omega), if_neg e2, rR_0 hs]
  have uc : ∀ s, uC c' (12 * d + n) s = if s = 17 + m then nI (i + 1) else if s = 43 + (4 * m + i) then nI v else uC c (12 * d + n) s := fun s => by
    rw [← hc', uC_wtc h3, if_pos rfl]
    unfold up
    by_cases e : s = 17 + m
    · rw [if_pos e, if_pos e]
    · rw [if_neg e, if_neg e, uC_wtm (by omega), if_pos rfl]
      rfl
  obtain ⟨k1, k2⟩ := DU_own h f (fun j s _ => by rw [← hc', gi_wi, if_neg (by omega), gi_wi, if_neg (by omega)]) (fun j s hj => by rw [← hc', gi_wi, if_neg (by omega), gi_wi, if_neg (by omega)]) (fun j s hj => by rw [← hc', gi_wi, if_neg (by omega), gi_wi, if_neg (by omega)]) g (fun s hs => by rw [gr', if_neg (by omega), if_neg (by omega)]) (OS_term hOS (o := o + 1) (k := o) (m := m) (cn := i) (v := v) (by rw [rR_0 (by omega)]; exact h1) (by omega) (by omega) (by rw [rR_0 (by omega)]; exact h4) h3 (by rw [rR_0 (by omega)]; exact h5) hi hv (by rw [ru _ (by omega), if_pos rfl]) (by rw [ru _ (by omega), if_neg (by omega), if_pos rfl]) (fun s s1 s2 s3 s4 => by rw [ru _ s2, if_neg s3, if_neg s4]) (by rw [uc, if_neg (by omega), if_neg (by omega)]) (by rw [uc, if_pos rfl]) (by rw [uc, if_neg (by omega), if_pos rfl]) (fun m' h1 h2 => by rw [uc, if_neg (by omega), if_neg (by omega)]) (fun j h1 h2 => by rw [uc, if_neg (by omega), if_neg (by omega)]))
  exact ⟨k1, k2, by rw [gr', if_neg (by omega), if_neg (by omega)]; exact h1, h2, h3, by rw [gr', if_neg (by omega), if_neg (by omega)]; exact h4, by rw [gr', if_pos rfl]⟩
end LX
