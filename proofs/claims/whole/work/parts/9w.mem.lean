/-! readMembers: a member put -/
section LX
variable {t : Nat} {T : Nat → Nat}
/-- how many own members are told -/
def OC (n i : Nat) (r : zM) : Prop := gi r 39 0 (113 * n + 64) = nI i
theorem OC_fs {n i : Nat} {r r' : zM} (h : OC n i r) (g : FS [2008, 2009, 2010, 2011] r r') : OC n i r' := by
  unfold OC
  rw [FSa g 0 _ (by decide) (by decide)]; exact h
theorem tells_z {d n i m : Nat} {c r : zM} (h : DU d n c r) (hO : OC n i r) (hi : i ≤ 8) (hm : m < 26) : (zfd (fun k => gi r 39 0 (113 * n + (65 + 6 * k))) (nI m) i = none ↔ gi c 32 (12 * d + n) m = -1) := by
  have hOS := h.ru.2.2.2
  have e64 : zn (rR r 39 0 n 64) = i := by rw [rR_0 (by omega), hO, zn_n (by omega)]
  have ez : zfd (fun k => rR r 39 0 n (65 + 6 * k)) (nI m) i = zfd (fun k => gi r 39 0 (113 * n + (65 + 6 * k))) (nI m) i := zfd_cg (fun k hk => rR_0 (by omega))
  have := hOS.2.2.2.2 m hm
  rw [uC_tc hm] at this
  rw [this]
  unfold cntR
  rw [e64, ez]
  rcases hq : zfd (fun k => gi r 39 0 (113 * n + (65 + 6 * k))) (nI m) i with _ | k
  · exact ⟨fun _ => rfl, fun _ => rfl⟩
  · refine ⟨(fun q => by cases q), (fun q => ?_)⟩
    obtain ⟨i1, -, -⟩ := zfd_some hq
    have z := (hOS.2.2.1 k (by omega)).2.1
    have q' : rR r 39 0 n (66 + 6 * k) = -1 := q
    rw [q'] at z
    exact absurd z (by decide)
theorem own_put {d n i m : Nat} {c r : zM} (h : DU d n c r) (hO : OC n i r) (hi : i < 8) (hm : m < 26) (hz : zfd (fun k => gi r 39 0 (113 * n + (65 + 6 * k))) (nI m) i = none) : DU d n (wi (wi c 7 (12 * d + n) 2 (gi c 7 (12 * d + n) 2 + 1)) 32 (12 * d + n) m 0) (wi (wi (wi r 39 0 (113 * n + (65 + 6 * i)) (nI m)) 39 0 (113 * n + (66 + 6 * i)) 0) 39 0 (113 * n + 64) (nI (i + 1))) ∧ DF d c (wi (wi c 7 (12 * d + n) 2 (gi c 7 (12 * d + n) 2 + 1)) 32 (12 * d + n) m 0) ∧ OE n i m 0 (wi (wi (wi r 39 0 (113 * n + (65 + 6 * i)) (nI m)) 39 0 (113 * n + (66 + 6 * i)) 0) 39 0 (113 * n + 64) (nI (i + 1))) := by
  have hOS := h.ru.2.2.2
  have r64 : rR r 39 0 n 64 = nI i := by rw [rR_0 (by omega)]; exact hO
  have c72 : gi c 7 (12 * d + n) 2 = nI i := by
    have := hOS.2.1
    rw [uC_7 (by omega), r64] at this
    exact this
  rw [c72, nI_1]
  generalize hc' : wi (wi c 7 (12 * d + n) 2 (nI (i + 1))) 32 (12 * d + n) m 0 = c'
  generalize hr' : wi (wi (wi r 39 0 (113 * n + (65 + 6 * i)) (nI m)) 39 0 (113 * n + (66 + 6 * i)) 0) 39 0 (113 * n + 64) (nI (i + 1)) = r'
  have f : FS [7, 32, 33] c c' := by rw [← hc']; exact FS_wa (by decide) (by decide) (FS_wa (by decide) (by decide) (FS_refl c))
  have g : FS [39] r r' := by rw [← hr']; exact FS_wa (by decide) (by decide) (FS_wa (by decide) (by decide) (FS_wa (by decide) (by decide) (FS_refl r)))
  have gr' : ∀ s, gi r' 39 0 s = if s = 113 * n + 64 then nI (i + 1) else if s = 113 * n + (66 + 6 * i) then 0 else if s = 113 * n + (65 + 6 * i) then nI m else gi r 39 0 s := fun s => by
    rw [← hr', gi_wi]
    by_cases e : s = 113 * n + 64
    · rw [if_pos ⟨rfl, rfl, e⟩, if_pos e]
    · rw [if_neg (fun q => e q.2.2), if_neg e, gi_wi]
      by_cases e2 : s = 113 * n + (66 + 6 * i)
      · rw [if_pos ⟨rfl, rfl, e2⟩, if_pos e2]
      · rw [if_neg (fun q => e2 q.2.2), if_neg e2, gi_wi]
        by_cases e3 : s = 113 * n + (65 + 6 * i)
        · rw [if_pos ⟨rfl, rfl, e3⟩, if_pos e3]
        · rw [if_neg (fun q => e3 q.2.2), if_neg e3]
  have uc : ∀ s, uC c' (12 * d + n) s = if s = 17 + m then 0 else if s = 2 then nI (i + 1) else uC c (12 * d + n) s := fun s => by
    rw [← hc', uC_wtc hm, if_pos rfl]
    unfold up
    by_cases e : s = 17 + m
    · rw [if_pos e, if_pos e]
    · rw [if_neg e, if_neg e, uC_w7 (by omega), if_pos rfl]
      rfl
  obtain ⟨k1, k2⟩ := DU_own h f (fun j s hj => by rw [← hc', gi_wi, if_neg (by omega), gi_wi, if_neg (by omega)]) (fun j s hj => by rw [← hc', gi_wi, if_neg (by omega), gi_wi, if_neg (by omega)]) (fun j s hj => by rw [← hc', gi_wi, if_neg (by omega), gi_wi, if_neg (by omega)]) g (fun s hs => by rw [gr', if_neg (by omega), if_neg (by omega), if_neg (by omega)]) (OS_new hOS (o := i) (m := m) (cn := 0) (v := 0) r64 hi (by rw [← hz]; exact zfd_cg (fun k hk => rR_0 (by omega))) hm (by rw [rR_0 (by omega), gr', if_pos rfl]) (by rw [rR_0 (by omega), gr', if_neg (by omega), if_neg (by omega), if_pos rfl]) (by rw [rR_0 (by omega), gr', if_neg (by omega), if_pos rfl]; rfl) (Or.inl rfl) (fun s s1 s2 => by rw [rR_0 (by omega), rR_0 (by omega), gr', if_neg (by omega), if_neg (by omega), if_neg (by omega)]) (by rw [uc, if_neg (by omega), if_pos rfl]) (by rw [uc, if_pos rfl]; rfl) (fun m' h1 h2 => ⟨by rw [uc, if_neg (by omega), if_neg (by omega)], fun j hj => by rw [uc, if_neg (by omega), if_neg (by omega)]⟩))
  exact ⟨k1, k2, by rw [gr', if_pos rfl], hi, hm, by rw [gr', if_neg (by omega), if_neg (by omega), if_pos rfl], by rw [gr', if_neg (by omega), if_pos rfl]; rfl⟩
/-- is the letter told already -/
theorem rDup {n i m p : Nat} {r : zM} (hn : n < 12) (hi : i ≤ 8) (hO : OC n i r) (h9 : gi r 10 0 9 = -1) (hF : FL p 2 ≠ -1) : ok (zloop (fX10_readsOwns_L29 (nI n) (nI (113 * n + 64)) (nI m) (nI p)) zF (0, r)) (fun o => ∃ r', o = Sum.inl r' ∧ ((zfd (fun k => gi r 39 0 (113 * n + (65 + 6 * k))) (nI m) i = none ∧ r' = r) ∨ (¬ zfd (fun k => gi r 39 0 (113 * n + (65 + 6 * k))) (nI m) i = none ∧ r' = wi r 10 0 9 (FL p 2)))) := by
  have hO' : gi r 39 0 (113 * n + 64) = nI i := hO
  rcases hq : zfd (fun k => gi r 39 0 (113 * n + (65 + 6 * k))) (nI m) i with _ | k
  · have no := zfd_none hq
    refine ok_for (fun j s => s = (nI j, r)) (a := 0) (b := i) (by omega) (by unfold zF; omega) rfl (fun j s _ hj hI => ?_) (fun s hI => ?_)
    · subst hI
      unfold fX10_readsOwns_L29
      dsimp only
      rw [zo _ (by omega) (by omega), zn_n (by omega), hO', if_neg (fun q => by have := (nIle (by omega) (by omega)).mp q; omega), qRight h9, Option.bind_some, if_neg n10, qOwnAt, Option.bind_some, zo _ (by omega) (by omega), zn_n (by omega), if_neg (no j hj), nI_1]
      exact ok_some (Or.inl ⟨_, rfl, rfl⟩)
    · subst hI
      unfold fX10_readsOwns_L29
      dsimp only
      rw [zo _ (by omega) (by omega), zn_n (by omega), hO', if_pos (Int32.le_refl _)]
      exact ok_some ⟨_, rfl, r, rfl, Or.inl ⟨rfl, rfl⟩⟩
  · obtain ⟨i1, i2, i3⟩ := zfd_some hq
    refine ok_for (fun j s => (j ≤ k ∧ s = (nI j, r)) ∨ (j = k + 1 ∧ s = (nI j, wi r 10 0 9 (FL p 2)))) (a := 0) (b := k + 1) (by omega) (by unfold zF; omega) (Or.inl ⟨by omega, rfl⟩) (fun j s _ hj hI => ?_) (fun s hI => ?_)
    · rcases hI with ⟨hjk, rfl⟩ | ⟨hjk, -⟩
      · unfold fX10_readsOwns_L29
        dsimp only
        rw [zo _ (by omega) (by omega), zn_n (by omega), hO', if_neg (fun q => by have := (nIle (by omega) (by omega)).mp q; omega), qRight h9, Option.bind_some, if_neg n10, qOwnAt, Option.bind_some, zo _ (by omega) (by omega), zn_n (by omega), nI_1]
        by_cases e : j = k
        · subst e
          rw [if_pos i2, l2, qFail h9, Option.bind_some]
          exact ok_some (Or.inl ⟨_, rfl, Or.inr ⟨rfl, rfl⟩⟩)
        · rw [if_neg (i3 j (by omega))]
          exact ok_some (Or.inl ⟨_, rfl, Or.inl ⟨by omega, rfl⟩⟩)
      · omega
    · rcases hI with ⟨hjk, -⟩ | ⟨-, rfl⟩
      · omega
      · unfold fX10_readsOwns_L29
        dsimp only
        rw [zo _ (by omega) (by omega), zn_n (by omega)]
        refine ok_if (fun _ => ok_some ⟨_, rfl, _, rfl, Or.inr ⟨(fun q => by cases q), rfl⟩⟩) (fun _ => ?_)
        rw [qWrong (by rw [gi_wi, if_pos ⟨rfl, rfl, rfl⟩]; exact hF), Option.bind_some, if_pos (show (0 : Int32) = 0 from rfl)]
        exact ok_some ⟨_, rfl, _, rfl, Or.inr ⟨(fun q => by cases q), rfl⟩⟩
theorem wDup {n : Nat} {F v4 v5 : Int32} {r : zM} (hn : n < 12) (h : WR t T F r) : zloop (fX10_readsOwns_L29 (nI n) (nI (113 * n + 64)) v4 v5) zF (0, r) = some (Sum.inl r) := by
  refine zloop_e ?_
  unfold fX10_readsOwns_L29
  dsimp only
  rw [zo _ (by omega) (by omega), zn_n (by omega), h.no, Option.bind_some, if_pos (show (0 : Int32) = 0 from rfl), ite_self]
/-- looking for another member -/
theorem r178 {n p q : Nat} {v2 : Int32} {r : zM} (hB : TB t T) (h : LR t T p r) (hK : TOK t T p q) : ok (fX10_readsOwns_J178 (nI n) v2 r) (fun o => ∃ f r', o = .inl (f, r') ∧ ((f = 1 ∧ lw t T p) ∨ (f = 0 ∧ ¬ lw t T p)) ∧ AR t T p r' ∧ FS [2008] r r') := by
  have ht := hB.1
  obtain ⟨a, ⟨a1, a2, a3⟩, a4⟩ := h
  unfold fX10_readsOwns_J178
  rw [qRight a2, Option.bind_some, if_neg n10]
  refine ok_bind (qWord hB a1 a3 a4 hK) (fun b hb => ?_)
  obtain ⟨w1, w2, e, f⟩ := hb
  have hA : AR t T p b.2 := ⟨TR_fs a1 f (by decide), by rw [FSf f 0 (by decide) (by decide)]; exact a2, e⟩
  have qt := hK.2.1
  by_cases y : lw t T p
  · have lt : p < t := by
      by_cases q : p < t
      · exact q
      · exact absurd y (lw_e p (by omega))
    have hE := (hK.2.2.2.2 lt).1 y
    have : p < q := by
      have := hE.1
      by_cases e : p = q
      · rw [← e] at hE; exact absurd y hE.2.2
      · omega
    rw [w1 y, if_neg (nI_nle (by omega) (by omega))]
    exact ok_some ⟨1, b.2, rfl, Or.inl ⟨rfl, y⟩, hA, f⟩
  · rw [w2 y, if_pos (Int32.le_refl _)]
    exact ok_some ⟨0, b.2, rfl, Or.inr ⟨rfl, y⟩, hA, f⟩
theorem w178 {v1 v2 F : Int32} {r : zM} (h : WR t T F r) : fX10_readsOwns_J178 v1 v2 r = some (.inl (0, r)) := by
  unfold fX10_readsOwns_J178
  rw [h.no, Option.bind_some, if_pos rfl]
end LX
