/-! readUnit -/
section LX
variable {t : Nat} {T : Nat → Nat}
/-- n units of world d are told -/
def DW (d n : Nat) (c r : zM) : Prop := gr c 4 7 = some d ∧ gi c 8 d 1 = nI n ∧ gi r 39 0 1356 = nI n ∧ RelW n (fun u => uC c (12 * d + u)) (fun u => rR r 39 0 u)
theorem DW_fs {d n : Nat} {c c' r r' : zM} (h : DW d n c r) (f : FS [1402, 1403, 1404, 1405, 1406] c c') (g : FS [2008, 2009, 2010, 2011] r r') : DW d n c' r' := by
  obtain ⟨h1, h2, h3, h5⟩ := h
  exact ⟨by rw [FSr f 7 (by decide)]; exact h1, by rw [FSa f d 1 (by decide) (by decide)]; exact h2, by rw [FSa g 0 _ (by decide) (by decide)]; exact h3, RelW_cg h5 (fun u _ => uC_fs f (by decide) _) (fun u _ => rR_cg (fun s _ => FSa g 0 _ (by decide) (by decide)))⟩
theorem idxW {d n : Nat} {c r : zM} (h : DW d n c r) (x : Int32) : ∃ o, fX8_indexOf d x c = some (zfx o) ∧ fX10_unitOf x r = some (zfx o) ∧ ∀ u, o = some u → u < n := by
  have h12 := h.2.2.2.1
  refine ⟨zfd (fun u => gi r 39 0 (113 * u + 1)) x n, ?_, qUnitOf h.2.2.1 h12, fun u hu => (zfd_some hu).1⟩
  rw [pX8_indexOf h.2.1 h12]
  congr 2
  refine zfd_cg (fun u hu => ?_)
  have a4 := (h.2.2.2.2 u hu).1.1.2.2.2
  dsimp only at a4
  rw [rR_0 (by omega), uC_7 (by omega)] at a4
  exact a4
theorem RelW_snoc {n : Nat} {cw rw : Nat → Nat → Int32} (h : RelW n cw rw) (hn : n < 12) (hU : RU n (cw n) (rw n)) (h2 : zn (rw n 2) = 0) (h7 : zn (rw n 7) = 0) : RelW (n + 1) cw rw := by
  refine ⟨by omega, fun u hu => ?_⟩
  by_cases e : u = n
  · subst e
    exact ⟨hU, fun k hk => by rw [h2] at hk; omega, fun k hk => by rw [h7] at hk; omega⟩
  · exact h.2 u (by omega)
theorem fill32 {N : Nat} {c : zM} : ok (fJ7_fill_32 N (-1) c) (fun c' => FS [32] c c' ∧ ∀ i s, gi c' 32 i s = if i = N ∧ s < 26 then -1 else gi c 32 i s) := by
  unfold fJ7_fill_32
  refine ok_bind (P := fun o => ∃ c', o = Sum.inl c' ∧ FS [32] c c' ∧ ∀ i s, gi c' 32 i s = if i = N ∧ s < 26 then -1 else gi c 32 i s) ?_ (fun o ho => ?_)
  · refine ok_for (fun j s => s.1 = nI j ∧ FS [32] c s.2 ∧ ∀ i x, gi s.2 32 i x = if i = N ∧ x < j then -1 else gi c 32 i x) (a := 0) (b := 26) (by omega) (by unfold zF; omega) ⟨rfl, FS_refl c, fun i x => by rw [if_neg (by omega)]⟩ (fun j s _ hj hI => ?_) (fun s hI => ?_)
    · obtain ⟨s1, s2⟩ := s
      obtain ⟨i1, i2, i3⟩ := hI
      dsimp only at i1 i2 i3
      subst i1
      unfold fJ7_fill_32_L5
      dsimp only
      rw [l26, if_neg (fun q => by have := (nIle (by omega) (by omega)).mp q; omega), zo _ (by omega) (by omega), zn_n (by omega), nI_1]
      refine ok_some (Or.inl ⟨_, rfl, rfl, FS_wa (by decide) (by decide) i2, fun i x => ?_⟩)
      dsimp only
      rw [gi_wi, i3]
      by_cases e : i = N ∧ x = j
      · rw [if_pos ⟨rfl, e.1, e.2⟩, if_pos ⟨e.1, by omega⟩]
      · rw [if_neg (fun q => e q.2)]
        by_cases e2 : i = N ∧ x < j
        · rw [if_pos e2, if_pos ⟨e2.1, by omega⟩]
        · rw [if_neg e2, if_neg (by omega)]
    · obtain ⟨s1, s2⟩ := s
      obtain ⟨i1, i2, i3⟩ := hI
      dsimp only at i1 i2 i3
      subst i1
      unfold fJ7_fill_32_L5
      dsimp only
      rw [l26, if_pos (Int32.le_refl _)]
      exact ok_some ⟨_, rfl, s2, rfl, i2, i3⟩
  · obtain ⟨c', rfl, h1, h2⟩ := ho
    exact ok_some ⟨h1, h2⟩
theorem unit_put {d n κ l : Nat} {c r r' : zM} (h : DW d n c r) (hn : n < 12) (hκ : κ ≤ 1) (hl : l < 26) (hr0 : ∀ s, s < 113 * n ∨ 113 * n + 113 ≤ s → gi r' 39 0 s = gi r 39 0 s) (hr1 : ∀ s, s < 113 → gi r' 39 0 (113 * n + s) = if s = 0 then nI κ else if s = 1 then nI l else 0) : ok (fX7_open (12 * d + n) (nI κ) (nI l) c) (fun c' => DU d n c' r' ∧ DF d c c' ∧ FS [5, 7, 32] c c') := by
  obtain ⟨q1, q2, q3, q4⟩ := h
  unfold fX7_open
  refine ok_zob (zbo_of (zin_n (by omega) (by omega))) ?_
  generalize hc1 : wi (wi (wi (wi (wi c 7 (12 * d + n) 0 (nI κ)) 7 (12 * d + n) 1 (nI l)) 7 (12 * d + n) 2 0) 5 (2 * (12 * d + n)) 1 0) 5 (2 * (12 * d + n) + 1) 1 0 = c1
  refine ok_bind (fill32 (N := 12 * d + n) (c := c1)) (fun c' hc' => ok_some ?_)
  obtain ⟨f2, g2⟩ := hc'
  have f1 : FS [5, 7, 32] c c1 := by rw [← hc1]; exact FS_wa (by decide) (by decide) (FS_wa (by decide) (by decide) (FS_wa (by decide) (by decide) (FS_wa (by decide) (by decide) (FS_wa (by decide) (by decide) (FS_refl c)))))
  have f : FS [5, 7, 32] c c' := FS_tr f1 (FS_mono (zss (by decide)) f2)
  have g7 : ∀ i s, gi c' 7 i s = if i = 12 * d + n ∧ s = 2 then 0 else if i = 12 * d + n ∧ s = 1 then nI l else if i = 12 * d + n ∧ s = 0 then nI κ else gi c 7 i s := fun i s => by
    rw [FSa f2 i s (by decide) (by decide), ← hc1, gi_wi, if_neg (by omega), gi_wi, if_neg (by omega), gi_wi, gi_wi, gi_wi]
    simp
  have g5 : ∀ i, gi c' 5 i 1 = if i = 2 * (12 * d + n) + 1 then 0 else if i = 2 * (12 * d + n) then 0 else gi c 5 i 1 := fun i => by
    rw [FSa f2 i 1 (by decide) (by decide), ← hc1, gi_wi, gi_wi, gi_wi, if_neg (show ¬ (5 = 7 ∧ _) by omega), gi_wi, if_neg (show ¬ (5 = 7 ∧ _) by omega), gi_wi, if_neg (show ¬ (5 = 7 ∧ _) by omega)]
    simp
  have g32 : ∀ i s, gi c' 32 i s = if i = 12 * d + n ∧ s < 26 then -1 else gi c 32 i s := fun i s => by
    rw [g2, ← hc1]
    congr 1
  have uo : ∀ q, q ≠ 12 * d + n → uC c' q = uC c q := fun q hq => by
    refine uC_cg (fun s _ => ?_) ?_ (fun s _ => FSa f _ s (by decide) (by decide)) ?_ (fun s _ => FSa f _ s (by decide) (by decide)) (fun s _ => FSa f _ s (by decide) (by decide)) (fun s _ => ?_) (fun s _ => FSa f _ s (by decide) (by decide)) (fun s _ => FSa f _ s (by decide) (by decide))
    · rw [g7, if_neg (fun w => hq w.1), if_neg (fun w => hq w.1), if_neg (fun w => hq w.1)]
    · rw [g5, if_neg (by omega), if_neg (by omega)]
    · rw [g5, if_neg (by omega), if_neg (by omega)]
    · rw [g32, if_neg (fun w => hq w.1)]
  have ru : ∀ s, s < 113 → rR r' 39 0 n s = if s = 0 then nI κ else if s = 1 then nI l else 0 := fun s hs => by rw [rR_0 hs]; exact hr1 s hs
  have r2 : rR r' 39 0 n 2 = nI 0 := by rw [ru 2 (by omega)]; rfl
  have r7 : rR r' 39 0 n 7 = nI 0 := by rw [ru 7 (by omega)]; rfl
  have r64 : rR r' 39 0 n 64 = nI 0 := by rw [ru 64 (by omega)]; rfl
  have z2 : zn (rR r' 39 0 n 2) = 0 := by rw [r2]; rfl
  have z7 : zn (rR r' 39 0 n 7) = 0 := by rw [r7]; rfl
  have z64 : zn (rR r' 39 0 n 64) = 0 := by rw [r64]; rfl
  have hRU : RU n (uC c' (12 * d + n)) (rR r' 39 0 n) := by
    refine ⟨⟨?_, ?_, ?_, ?_⟩, ⟨?_, ?_, fun k hk => by rw [z2] at hk; omega⟩, ⟨?_, ?_, fun k hk => by rw [z7] at hk; omega⟩, ⟨?_, ?_, fun k hk => by rw [z64] at hk; omega, fun i j _ hj => by rw [z64] at hj; omega, fun m hm => ?_⟩⟩
    · rw [ru 0 (by omega), if_pos rfl]; exact zin_n (by omega) (by omega)
    · rw [ru 0 (by omega), if_pos rfl, uC_7 (by omega), g7, if_neg (by omega), if_neg (by omega), if_pos ⟨rfl, rfl⟩]
    · rw [ru 1 (by omega), if_neg (by omega), if_pos rfl]; exact zin_n hl (by omega)
    · rw [ru 1 (by omega), if_neg (by omega), if_pos rfl, uC_7 (by omega), g7, if_neg (by omega), if_pos ⟨rfl, rfl⟩]
    · rw [r2]; decide
    · rw [r2, uC_ps, g5, if_neg (by omega), if_pos rfl]; rfl
    · rw [r7]; decide
    · rw [r7, uC_us, g5, if_pos rfl]; rfl
    · rw [r64]; decide
    · rw [r64, uC_7 (by omega), g7, if_pos ⟨rfl, rfl⟩]; rfl
    · rw [uC_tc hm, g32, if_pos ⟨rfl, hm⟩]
      unfold cntR
      rw [z64]
      rfl
  have hR : RelW n (fun u => uC c' (12 * d + u)) (fun u => rR r' 39 0 u) := RelW_cg q4 (fun u hu => uo _ (by omega)) (fun u hu => rR_cg (fun s hs => by rw [Nat.zero_add]; exact hr0 _ (by omega)))
  exact ⟨⟨by rw [FSr f 7 (by decide)]; exact q1, by rw [FSa f d 1 (by decide) (by decide)]; exact q2, by rw [hr0 _ (by omega)]; exact q3, hn, RelW_snoc hR hn hRU z2 z7⟩, DF_u hn (FS_mono (zss (by decide)) f) uo, f⟩
def UR (t : Nat) (T : Nat → Nat) (d n : Nat) (c r : zM) (a : Int32 × zM) (r' : zM) : Prop := DF d c a.2 ∧ FS KRr r r' ∧ ((a.1 = 1 ∧ ∃ p q, LC t T p q a.2 ∧ LR t T p r' ∧ DW d (n + 1) a.2 r') ∨ (a.1 = 1 ∧ ∃ p q, LC t T p q a.2 ∧ p < t ∧ sg t T p ≠ 59 ∧ WR t T (FL p 1) r') ∨ (a.1 = 0 ∧ ∃ F, gi a.2 4 0 5 = F ∧ F ≠ 0 ∧ WR t T F r'))
theorem UR_tr {d n : Nat} {c r c1 r1 : zM} {a : Int32 × zM} {r' : zM} (h : UR t T d n c1 r1 a r') (hc : DF d c c1) (hr : FS KRr r r1) : UR t T d n c r a r' := ⟨DF_tr hc h.1, FS_tr hr h.2.1, h.2.2⟩
theorem DF_8 {d : Nat} {v : Int32} {c : zM} : DF d c (wi c 8 d 1 v) ∧ FS [8] c (wi c 8 d 1 v) := by
  have f : FS [8] c (wi c 8 d 1 v) := FS_wa (by decide) (by decide) (FS_refl c)
  exact ⟨⟨FS_mono (zss (by decide)) f, fun q _ => uC_fs f (by decide) q, fun i hi => by rw [gi_wi, if_neg (fun q => hi q.2.1)]⟩, f⟩
theorem w243 {F : Int32} {r : zM} (h : WR t T F r) : ok (fX10_readsUnit_J243 r) (fun r' => WR t T F r' ∧ FS KRr r r') := by
  unfold fX10_readsUnit_J243
  have f := FS_wa (v := gi r 39 0 (zn 1356) + 1) (k := 39) (s := zn 1356) (i := 0) (ks := [39]) (by decide) (by decide) (FS_refl r)
  exact ok_some ⟨WR_fs h f (by decide), krr f (by decide)⟩
theorem w229 {F v : Int32} {r : zM} (h : WR t T F r) : ok (fX10_readsUnit_J229 v r) (fun r' => WR t T F r' ∧ FS KRr r r') := by
  unfold fX10_readsUnit_J229
  refine ok_bind (wSign (v := 58) h) (fun b hb => ?_)
  rw [hb.1, if_pos (show (0 : Int32) = 0 from rfl)]
  exact ok_mono (w243 hb.2.1) (fun r' hr => ⟨hr.1, FS_tr (krr hb.2.2 (by decide)) hr.2⟩)
theorem w215 {F v : Int32} {r : zM} (hB : TB t T) (h : WR t T F r) : ok (fX10_readsUnit_J215 v r) (fun r' => WR t T F r' ∧ FS KRr r r') := by
  obtain ⟨a1, a2, a3, a, a4, a5⟩ := id h
  obtain ⟨p, p1, p2⟩ := En_ex (P := sp t T) sp_e t a (by omega) a5
  obtain ⟨q, hK⟩ := TOK_ex p2 p1.2.2
  unfold fX10_readsUnit_J215
  refine ok_bind (qTakes hB a1 a4 p1 hK (TOK_le hK) (k := 3) (by omega)) (fun b hb => ?_)
  obtain ⟨-, b2, b3⟩ := hb
  obtain ⟨c1, c2⟩ := b2 (fun w => a3 (by rw [← a2]; exact w.1))
  rw [c1, if_pos (show (0 : Int32) = 0 from rfl)]
  have hW : WR t T F b.2 := ⟨TR_fs a1 b3 (by decide), by rw [FSf b3 0 (by decide) (by decide)]; exact a2, a3, p, c2, p2⟩
  exact ok_mono (w229 hW) (fun r' hr => ⟨hr.1, FS_tr (krr b3 (by decide)) hr.2⟩)
theorem u192 {d n : Nat} {c r : zM} (h : DU d n c r) : fX4_readUnit_J187 c = some (1, wi c 8 d 1 (nI (n + 1))) ∧ fX10_readsUnit_J243 r = some (wi r 39 0 1356 (nI (n + 1))) ∧ DW d (n + 1) (wi c 8 d 1 (nI (n + 1))) (wi r 39 0 1356 (nI (n + 1))) := by
  obtain ⟨h1, h2, h3, h4, h5⟩ := h
  refine ⟨?_, ?_, ?_⟩
  · unfold fX4_readUnit_J187 fX4_readUnit_J192
    rw [if_neg n10, h1, Option.bind_some, h2, nI_1]
    rfl
  · unfold fX10_readsUnit_J243
    rw [n1356, h3, nI_1]
  · obtain ⟨k1, f⟩ := DF_8 (d := d) (v := nI (n + 1)) (c := c)
    refine ⟨by rw [FSr f 7 (by decide)]; exact h1, by rw [gi_wi, if_pos ⟨rfl, rfl, rfl⟩], by rw [gi_wi, if_pos ⟨rfl, rfl, rfl⟩], RelW_cg h5 (fun u _ => uC_fs f (by decide) _) (fun u hu => rR_cg (fun s hs => by rw [gi_wi, if_neg (by omega)]))⟩
theorem unitC {d n p q : Nat} {c r : zM} (hB : TB t T) (h : LC t T p q c) (hR : LR t T p r) (hU : DU d n c r) (hO : OC n 0 r) : ok2 (fX4_readUnit_J163 (12 * d + n) 1 c) (fX10_readsUnit_J229 (nI n) r) (UR t T d n c r) := by
  have hK := h.2.1
  unfold fX4_readUnit_J163 fX10_readsUnit_J229
  rw [if_neg n10, h.2.2.2.2.1]
  refine ok2_r (rSign hB (v := 58) hR hK.1 (by omega)) (fun b hb => ?_)
  obtain ⟨s1, s2, s3⟩ := hb
  have hUb : DU d n c b.2 := DU_fs hU (FS_refl c) (lxr s3 (by decide))
  by_cases y : sg t T p = 58
  · obtain ⟨u1, u2⟩ := s1 y
    obtain ⟨w1, w2⟩ := sg_1 hK y (by omega) (by omega) (by omega)
    rw [if_pos (show Cs (sg t T p) = 58 from (Cs_v _ (sg_lt hB p) 58 (by omega)).mpr y), u1, if_neg n10]
    refine ok2_bind (members2 hB h (by rw [w1]; exact u2) hUb (OC_fs hO (lxr s3 (by decide)))) (fun x r2 hx => ?_)
    obtain ⟨d1, d2, ⟨d3, p2, q2, l1, l2, l3⟩ | ⟨d3, p2, q2, l1, l2, l3, l4⟩ | ⟨d3, F, l1, l2, l3⟩⟩ := hx
    · obtain ⟨e1, e2, e3⟩ := u192 l3
      have f8 := (DF_8 (d := d) (v := nI (n + 1)) (c := x.2))
      have fr := FS_wa (v := nI (n + 1)) (k := 39) (s := 1356) (i := 0) (ks := [39]) (by decide) (by decide) (FS_refl r2)
      rw [d3, if_neg n10, e1, e2]
      exact ok2_some ⟨DF_tr d1 f8.1, FS_tr (FS_tr (krr s3 (by decide)) d2) (krr fr (by decide)), Or.inl ⟨rfl, p2, q2, LC_fs l1 f8.2 (by decide), LR_fs l2 fr (by decide), e3⟩⟩
    · rw [d3, if_neg n10]
      have g7 : gr x.2 4 7 = some d := by rw [FSr d1.1 7 (by decide)]; exact hU.1
      unfold fX4_readUnit_J187 fX4_readUnit_J192
      rw [if_neg n10, g7, Option.bind_some]
      refine ok2_zl (show zbo 1 = true by decide) (ok2_of (ok_some rfl) (w243 l4) (fun a r3 ha hr => ?_))
      subst ha
      have f8 := (DF_8 (d := d) (v := gi x.2 8 d 1 + 1) (c := x.2))
      exact ⟨DF_tr d1 f8.1, FS_tr (FS_tr (krr s3 (by decide)) d2) hr.2, Or.inr (Or.inl ⟨rfl, p2, q2, LC_fs l1 f8.2 (by decide), l2, l3, hr.1⟩)⟩
    · rw [d3, if_pos (show (0 : Int32) = 0 from rfl)]
      unfold fX4_readUnit_J191 fX4_readUnit_J192
      rw [if_pos (show (0 : Int32) = 0 from rfl)]
      refine ok2_zl (show zbo 0 = true by decide) (ok2_of (ok_some rfl) (w243 l3) (fun a r3 ha hr => ?_))
      subst ha
      exact ⟨d1, FS_tr (FS_tr (krr s3 (by decide)) d2) hr.2, Or.inr (Or.inr ⟨rfl, F, l1, l2, hr.1⟩)⟩
  · obtain ⟨u1, u2⟩ := s2 y
    obtain ⟨e1, e2, e3⟩ := u192 hUb
    have f8 := (DF_8 (d := d) (v := nI (n + 1)) (c := c))
    have fr := FS_wa (v := nI (n + 1)) (k := 39) (s := 1356) (i := 0) (ks := [39]) (by decide) (by decide) (FS_refl b.2)
    rw [if_neg (show ¬ Cs (sg t T p) = 58 from fun w => y ((Cs_v _ (sg_lt hB p) 58 (by omega)).mp w)), u1, if_pos (show (0 : Int32) = 0 from rfl), e1, e2]
    exact ok2_some ⟨f8.1, FS_tr (krr s3 (by decide)) (krr fr (by decide)), Or.inl ⟨rfl, p, q, LC_fs h f8.2 (by decide), LR_fs (AR_LR u2 hK.2.2.1) fr (by decide), e3⟩⟩
theorem rTakes {p q k : Nat} {r : zM} (hB : TB t T) (h : LR t T p r) (hK : TOK t T p q) (hk : k < 5) : ok (fX10_takes k r) (fun b => (q - p = zlen.getD k 0 ∧ Wd T k p → b.1 = 1 ∧ AR t T q b.2) ∧ (¬ (q - p = zlen.getD k 0 ∧ Wd T k p) → b.1 = 0 ∧ AR t T p b.2) ∧ FS [2008] r b.2) := by
  obtain ⟨a, ⟨a1, a2, a3⟩, a4⟩ := h
  refine ok_mono (qTakes hB a1 a3 a4 hK (TOK_le hK) hk) (fun b hb => ?_)
  obtain ⟨b1, b2, b3⟩ := hb
  have hT := TR_fs a1 b3 (by decide)
  have h9 : gi b.2 10 0 9 = -1 := by rw [FSf b3 0 (by decide) (by decide)]; exact a2
  exact ⟨fun w => ⟨(b1 ⟨a2, w⟩).1, hT, h9, (b1 ⟨a2, w⟩).2⟩, fun w => ⟨(b2 (fun y => w y.2)).1, hT, h9, (b2 (fun y => w y.2)).2⟩, b3⟩
theorem bad163 {v : Nat} {c : zM} : fX4_readUnit_J162 v c = some (0, c) := by
  unfold fX4_readUnit_J162 fX4_readUnit_J163 fX4_readUnit_J191 fX4_readUnit_J192
  rw [if_pos rfl, if_pos rfl]
  rfl
theorem unitB {d n p q : Nat} {c r : zM} (hB : TB t T) (h : LC t T p q c) (hR : LR t T p r) (hU : DU d n c r) (h7 : gi r 39 0 (113 * n + 7) = nI 0) (hO : OC n 0 r) : ok2 (fX4_readUnit_J129 (12 * d + n) c) (fX10_readsUnit_J215 (nI n) r) (UR t T d n c r) := by
  have hK := h.2.1
  unfold fX4_readUnit_J129 fX4_readUnit_J134 fX10_readsUnit_J215
  rw [if_neg n10]
  refine ok2_l (pX4_isWord hB h.1 h.2.2.1 h.2.2.2.1 hK (TOK_le hK) (k := 3) (by omega)) (fun x hx => ?_)
  refine ok2_r (rTakes hB hR hK (k := 3) (by omega)) (fun b hb => ?_)
  obtain ⟨b1, b2, b3⟩ := hb
  have hUb : DU d n c b.2 := DU_fs hU (FS_refl c) (lxr b3 (by decide))
  by_cases y : q - p = zlen.getD 3 0 ∧ Wd T 3 p
  · obtain ⟨u1, u2⟩ := b1 y
    rw [hx.1 y, if_neg n10, u1, if_neg n10]
    refine ok2_bind (traits2r hB h u2 hUb (by rw [FSa b3 0 _ (by decide) (by decide)]; exact h7)) (fun x14 r2 h14 => ?_)
    obtain ⟨d1, d2, ⟨d3, p2, q2, l1, l2, l3, l4⟩ | ⟨d3, F, l1, l2, l3⟩⟩ := h14
    · rw [d3, if_neg n10]
      unfold fX4_readUnit_J158
      refine ok2_mono (unitC hB l1 l2 l3 (show gi r2 39 0 (113 * n + 64) = nI 0 by rw [l4 _ (by omega), FSa b3 0 _ (by decide) (by decide)]; exact hO)) (fun a r' hh => UR_tr hh d1 (FS_tr (krr b3 (by decide)) d2))
    · rw [d3, if_pos (show (0 : Int32) = 0 from rfl), bad163]
      refine ok2_of (ok_some rfl) (w229 l3) (fun a r3 ha hr => ?_)
      subst ha
      exact ⟨d1, FS_tr (FS_tr (krr b3 (by decide)) d2) hr.2, Or.inr (Or.inr ⟨rfl, F, l1, l2, hr.1⟩)⟩
  · obtain ⟨u1, u2⟩ := b2 y
    rw [hx.2 y, if_pos (show (0 : Int32) = 0 from rfl), u1, if_pos (show (0 : Int32) = 0 from rfl)]
    unfold fX4_readUnit_J158
    exact ok2_mono (unitC hB h (AR_LR u2 hK.2.2.1) hUb (OC_fs hO (lxr b3 (by decide)))) (fun a r' hh => UR_tr hh (DF_refl c) (krr b3 (by decide)))
end LX
