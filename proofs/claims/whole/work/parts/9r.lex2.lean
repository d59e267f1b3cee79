/-! what the readers see, on both sides -/
section LX
variable {t : Nat} {T : Nat → Nat}
theorem qSign {r : zM} {p : Nat} (hB : TB t T) (hT : TR t T r) (h : gi r 10 0 8 = nI p) (hp : p ≤ t) : fX10_sign r = some (Rs (sg t T p)) := by
  have ht := hB.1
  unfold fX10_sign
  rw [h, hT.1]
  by_cases e : p = t
  · rw [e, if_pos (Int32.le_refl _), sg_e (Nat.le_refl t)]; rfl
  · rw [if_neg (fun q => by have := (nIle (by omega) (by omega)).mp q; omega), zo _ (by omega) (by omega), zn_n (by omega), hT.2 p (by omega), Cs_255 _ (hB.2 p), sg_l (by omega)]
theorem qNext {r : zM} {a p : Nat} (hB : TB t T) (hT : TR t T r) (h : gi r 10 0 8 = nI a) (hE : En (sp t T) a p) (hp : p ≤ t) : ok (fX10_next r) (fun b => b.1 = Rs (sg t T p) ∧ gi b.2 10 0 8 = nI p ∧ FS [2008] r b.2) := by
  have ht := hB.1
  unfold fX10_next
  refine ok_bind (P := fun o => ∃ r', o = Sum.inl r' ∧ gi r' 10 0 8 = nI p ∧ FS [2008] r r') ?_ (fun o ho => ?_)
  · refine ok_for (fun i s => gi s 10 0 8 = nI i ∧ FS [2008] r s) (a := a) (b := p) hE.1 (by unfold zF; omega) ⟨h, FS_refl r⟩ (fun i s h1 h2 hI => ?_) (fun s hI => ?_)
    · obtain ⟨e, f⟩ := hI
      unfold fX10_next_L0
      rw [qSign hB (TR_fs hT f (by decide)) e (by omega), Option.bind_some, if_pos (show Rs (sg t T i) = 32 from (Rs_v _ (sg_lt hB i) 32 (by omega)).mpr (hE.2.1 i h1 h2)), e, nI_1]
      exact ok_some (Or.inl ⟨_, rfl, by rw [gi_wi, if_pos ⟨rfl, rfl, rfl⟩], FS_wf (by decide) (by decide) f⟩)
    · obtain ⟨e, f⟩ := hI
      unfold fX10_next_L0
      rw [qSign hB (TR_fs hT f (by decide)) e hp, Option.bind_some, if_neg (show ¬ Rs (sg t T p) = 32 from fun q => hE.2.2 ((Rs_v _ (sg_lt hB p) 32 (by omega)).mp q))]
      exact ok_some ⟨_, rfl, s, rfl, e, f⟩
  · obtain ⟨r', rfl, e, f⟩ := ho
    show ok ((fX10_sign r').bind _) _
    rw [qSign hB (TR_fs hT f (by decide)) e hp, Option.bind_some]
    exact ok_some ⟨rfl, e, f⟩
theorem qWord {r : zM} {a p q : Nat} (hB : TB t T) (hT : TR t T r) (h : gi r 10 0 8 = nI a) (hE : En (sp t T) a p) (hK : TOK t T p q) : ok (fX10_wordLong r) (fun b => (lw t T p → b.1 = nI (q - p)) ∧ (¬ lw t T p → b.1 = 0) ∧ gi b.2 10 0 8 = nI p ∧ FS [2008] r b.2) := by
  have ht := hB.1
  unfold fX10_wordLong
  refine ok_bind (qNext hB hT h hE hK.1) (fun b hb => ?_)
  obtain ⟨-, e, f⟩ := hb
  have hT' := TR_fs hT f (by decide)
  obtain ⟨e', e1, e2⟩ := En_ex (P := lw t T) lw_e t p (by omega) hK.1
  have key : ok (zloop (fX10_wordLong_L7 b.2) zF 0) (fun o => o = Sum.inl (nI (e' - p))) := by
    have p1 := e1.1
    refine ok_for (fun i s => s = nI i) (a := 0) (b := e' - p) (by omega) (by unfold zF; omega) rfl (fun i s h1 h2 hI => ?_) (fun s hI => ?_)
    · subst hI
      unfold fX10_wordLong_L7
      have y := e1.2.1 (p + i) (by omega) (by omega)
      unfold lw at y
      rw [sg_l (by omega)] at y
      rw [e, hT'.1, nI_add, if_neg (fun q => by have := (nIle (by omega) (by omega)).mp q; omega), zo _ (by omega) (by omega), zn_n (by omega), hT'.2 (p + i) (by omega), qin (Cs_97 (T (p + i)) (by have := hB.2 (p + i); omega)), if_pos y, Option.bind_some, if_neg n10, nI_1]
      exact ok_some (Or.inl ⟨_, rfl, rfl⟩)
    · subst hI
      unfold fX10_wordLong_L7
      rw [e, hT'.1, nI_add, show p + (e' - p) = e' by omega]
      by_cases z : e' = t
      · rw [z, if_pos (Int32.le_refl _)]
        exact ok_some ⟨_, rfl, rfl⟩
      · have y := e1.2.2
        unfold lw at y
        rw [sg_l (by omega)] at y
        rw [if_neg (fun q => by have := (nIle (by omega) (by omega)).mp q; omega), zo _ (by omega) (by omega), zn_n (by omega), hT'.2 e' (by omega), qin (Cs_97 (T e') (by have := hB.2 e'; omega)), if_neg y, Option.bind_some, if_pos (show (0 : Int32) = 0 from rfl)]
        exact ok_some ⟨_, rfl, rfl⟩
  refine ok_bind key (fun o ho => ?_)
  subst ho
  refine ok_some ⟨fun y => ?_, fun y => ?_, e, f⟩
  · have l : p < t := by
      by_cases q : p < t
      · exact q
      · exact absurd y (lw_e p (by omega))
    have : e' = q := En_u e1 ((hK.2.2.2.2 l).1 y)
    rw [← this]
  · have : e' = p := by
      by_cases q : e' = p
      · exact q
      · exact absurd (e1.2.1 p (Nat.le_refl p) (by have := e1.1; omega)) y
    show nI (e' - p) = 0
    rw [this, Nat.sub_self]; rfl
/-- the word k stands at p -/
def Wd (T : Nat → Nat) (k p : Nat) : Prop := ∀ i, i < zlen.getD k 0 → Cs (T (p + i)) = zschr k (nI i)
theorem zsl : ∀ k, k < 5 → zslen k = nI (zlen.getD k 0) ∧ 1 < zlen.getD k 0 ∧ zlen.getD k 0 ≤ 5 := by decide
theorem zs0 : ∀ k, k < 5 → ∃ v, (97 ≤ v ∧ v ≤ 122) ∧ zschr k (nI 0) = nI v := by
  intro k hk
  match k, hk with
  | 0, _ => exact ⟨116, by decide, by decide⟩
  | 1, _ => exact ⟨116, by decide, by decide⟩
  | 2, _ => exact ⟨111, by decide, by decide⟩
  | 3, _ => exact ⟨117, by decide, by decide⟩
  | 4, _ => exact ⟨115, by decide, by decide⟩
theorem Wd_lw (hB : TB t T) {k p q : Nat} (hk : k < 5) (h : Wd T k p) (hq : q - p = zlen.getD k 0) (hqt : q ≤ t) : lw t T p := by
  obtain ⟨z1, z2, z3⟩ := zsl k hk
  obtain ⟨v, v1, v2⟩ := zs0 k hk
  have := h 0 (by omega)
  rw [v2, Nat.add_zero] at this
  have e := (Cs_v (T p) (by have := hB.2 p; omega) v (by omega)).mp this
  unfold lw
  rw [sg_l (by omega), e]
  exact v1
theorem pX4_isWord {c : zM} {p q k : Nat} (hB : TB t T) (hT : TC t T c) (h2 : gi c 4 0 2 = nI p) (h3 : gi c 4 0 3 = nI q) (hK : TOK t T p q) (hpq : p ≤ q) (hk : k < 5) : ok (fX4_isWord k c) (fun x => (q - p = zlen.getD k 0 ∧ Wd T k p → x = 1) ∧ (¬ (q - p = zlen.getD k 0 ∧ Wd T k p) → x = 0)) := by
  have ht := hB.1
  obtain ⟨z1, z2, z3⟩ := zsl k hk
  have qt := hK.2.1
  unfold fX4_isWord
  rw [h2, h3, z1, pk_sub hpq]
  by_cases e : q - p = zlen.getD k 0
  · rw [if_pos (by rw [e])]
    refine ok_bind (P := fun o => (∃ u, o = Sum.inl u ∧ Wd T k p) ∨ (o = Sum.inr 0 ∧ ¬ Wd T k p)) ?_ (fun o ho => ?_)
    · refine ok_for (fun i s => s = nI i ∧ ∀ j, j < i → Cs (T (p + j)) = zschr k (nI j)) (a := 0) (b := zlen.getD k 0) (by omega) (by unfold zF; omega) ⟨rfl, fun j hj => by omega⟩ (fun i s h1 h2' hI => ?_) (fun s hI => ?_)
      · obtain ⟨rfl, hj⟩ := hI
        unfold fX4_isWord_L20
        rw [z1, if_neg (fun q => by have := (nIle (by omega) (by omega)).mp q; omega), hT.1, zob_t _ (show (some 0 == some 0) = true from rfl), h2, nI_add, zo _ (by omega) (by omega), zo _ (by omega) (by omega), zn_n (by omega), hT.2.2 (p + i) (by omega), nI_1]
        by_cases y : Cs (T (p + i)) = zschr k (nI i)
        · rw [if_pos y]
          refine ok_some (Or.inl ⟨_, rfl, rfl, fun j hj' => ?_⟩)
          by_cases w : j = i
          · rw [w]; exact y
          · exact hj j (by omega)
        · rw [if_neg y]
          exact ok_some (Or.inr ⟨_, rfl, Or.inr ⟨rfl, fun w => y (w i h2')⟩⟩)
      · obtain ⟨rfl, hj⟩ := hI
        unfold fX4_isWord_L20
        rw [z1, if_pos (Int32.le_refl _)]
        exact ok_some ⟨_, rfl, Or.inl ⟨_, rfl, hj⟩⟩
    · rcases ho with ⟨u, rfl, w⟩ | ⟨rfl, w⟩
      · exact ok_some ⟨fun _ => rfl, fun y => absurd ⟨e, w⟩ y⟩
      · exact ok_some ⟨fun y => absurd y.2 w, fun _ => rfl⟩
  · rw [if_neg (fun y => e ((nIeq (by omega) (by omega)).mp y))]
    exact ok_some ⟨fun y => absurd y.1 e, fun _ => rfl⟩
theorem qTakes {r : zM} {a p q k : Nat} (hB : TB t T) (hT : TR t T r) (h : gi r 10 0 8 = nI a) (hE : En (sp t T) a p) (hK : TOK t T p q) (hpq : p ≤ q) (hk : k < 5) : ok (fX10_takes k r) (fun b => (gi r 10 0 9 = -1 ∧ q - p = zlen.getD k 0 ∧ Wd T k p → b.1 = 1 ∧ gi b.2 10 0 8 = nI q) ∧ (¬ (gi r 10 0 9 = -1 ∧ q - p = zlen.getD k 0 ∧ Wd T k p) → b.1 = 0 ∧ gi b.2 10 0 8 = nI p) ∧ FS [2008] r b.2) := by
  have ht := hB.1
  obtain ⟨z1, z2, z3⟩ := zsl k hk
  have qt := hK.2.1
  unfold fX10_takes
  refine ok_bind (qWord hB hT h hE hK) (fun b hb => ?_)
  obtain ⟨w1, w2, e, f⟩ := hb
  have hT' := TR_fs hT f (by decide)
  have e9 : gi b.2 10 0 9 = gi r 10 0 9 := FSf f 0 (by decide) (by decide)
  have no : ∀ v : Int32, 0 ≤ v → ok (fX10_takes_J24 k v b.2) (fun d => d.1 = 0 ∧ gi d.2 10 0 8 = nI p ∧ FS [2008] r d.2) := fun v hv => by
    unfold fX10_takes_J24 fX10_takes_J25
    have lp : zloop (fX10_takes_L29 k v b.2) zF (0, 0) = some (Sum.inl 0) := by
      refine zloop_e ?_
      unfold fX10_takes_L29
      by_cases y : v ≤ 0
      · rw [if_pos y]
      · rw [if_neg y, if_pos rfl]
    rw [lp, Option.bind_some]
    show ok (if (0 : Int32) = 0 then fX10_takes_J86 0 0 (gi b.2 10 0 8) b.2 else fX10_takes_J86 0 v (gi b.2 10 0 8) b.2) _
    rw [if_pos rfl]
    unfold fX10_takes_J86
    rw [zob_t _ (show zbo 0 = true by decide), e, Int32.add_zero]
    exact ok_some ⟨rfl, by rw [gi_wi, if_pos ⟨rfl, rfl, rfl⟩], FS_wf (by decide) (by decide) f⟩
  have v0 : 0 ≤ b.1 := by
    by_cases y : lw t T p
    · rw [w1 y]; exact nI_pos' (by omega)
    · rw [w2 y]; exact Int32.le_refl _
  unfold fX10_isRight
  rw [e9]
  by_cases g : gi r 10 0 9 = -1
  · rw [if_pos g, Option.bind_some, if_neg n10, z1]
    by_cases y : b.1 = nI (zlen.getD k 0)
    · rw [if_pos y, y]
      have yl : lw t T p := by
        by_cases yl : lw t T p
        · exact yl
        · rw [w2 yl] at y
          have := (nIeq (a := 0) (by omega) (by omega)).mp y
          omega
      have ye : q - p = zlen.getD k 0 := by
        rw [w1 yl] at y
        exact (nIeq (by omega) (by omega)).mp y
      unfold fX10_takes_J25
      have lp : ok (zloop (fX10_takes_L29 k (nI (zlen.getD k 0)) b.2) zF (1, 0)) (fun o => (o = Sum.inl 1 ∧ Wd T k p) ∨ (o = Sum.inl 0 ∧ ¬ Wd T k p)) := by
        refine ok_for (fun i s => s.2 = nI i ∧ ((s.1 = 1 ∧ ∀ j, j < i → Cs (T (p + j)) = zschr k (nI j)) ∨ (s.1 = 0 ∧ ¬ Wd T k p))) (a := 0) (b := zlen.getD k 0) (by omega) (by unfold zF; omega) ⟨rfl, Or.inl ⟨rfl, fun j hj => by omega⟩⟩ (fun i s h1 h2' hI => ?_) (fun s hI => ?_)
        · obtain ⟨s1, s2⟩ := s
          obtain ⟨i1, i2⟩ := hI
          dsimp only at i1 i2
          subst i1
          unfold fX10_takes_L29
          dsimp only
          rw [if_neg (fun q => by have := (nIle (by omega) (by omega)).mp q; omega)]
          rcases i2 with ⟨rfl, hj⟩ | ⟨rfl, hj⟩
          · rw [if_neg n10, e, nI_add, zo _ (by omega) (by omega), zo _ (by omega) (by omega), zn_n (by omega), hT'.2 (p + i) (by omega), nI_1]
            by_cases y : Cs (T (p + i)) = zschr k (nI i)
            · rw [if_pos y]
              refine ok_some (Or.inl ⟨_, rfl, rfl, Or.inl ⟨rfl, fun j hj' => ?_⟩⟩)
              by_cases w : j = i
              · rw [w]; exact y
              · exact hj j (by omega)
            · rw [if_neg y]
              exact ok_some (Or.inl ⟨_, rfl, rfl, Or.inr ⟨rfl, fun w => y (w i h2')⟩⟩)
          · rw [if_pos rfl]
            exact ok_some (Or.inr ⟨_, rfl, Or.inr ⟨rfl, hj⟩⟩)
        · obtain ⟨s1, s2⟩ := s
          obtain ⟨i1, i2⟩ := hI
          dsimp only at i1 i2
          subst i1
          unfold fX10_takes_L29
          dsimp only
          rw [if_pos (Int32.le_refl _)]
          rcases i2 with ⟨rfl, hj⟩ | ⟨rfl, hj⟩
          · exact ok_some ⟨_, rfl, Or.inl ⟨rfl, hj⟩⟩
          · exact ok_some ⟨_, rfl, Or.inr ⟨rfl, hj⟩⟩
      refine ok_bind lp (fun o ho => ?_)
      rcases ho with ⟨rfl, w⟩ | ⟨rfl, w⟩
      · show ok (if (1 : Int32) = 0 then fX10_takes_J86 1 0 (gi b.2 10 0 8) b.2 else fX10_takes_J86 1 (nI (zlen.getD k 0)) (gi b.2 10 0 8) b.2) _
        rw [if_neg n10]
        unfold fX10_takes_J86
        have pq := hpq
        rw [zob_t _ (show zbo 1 = true by decide), e, nI_add, show p + zlen.getD k 0 = q by omega]
        exact ok_some ⟨fun _ => ⟨rfl, by rw [gi_wi, if_pos ⟨rfl, rfl, rfl⟩]⟩, fun y => absurd ⟨g, ye, w⟩ y, FS_wf (by decide) (by decide) f⟩
      · show ok (if (0 : Int32) = 0 then fX10_takes_J86 0 0 (gi b.2 10 0 8) b.2 else fX10_takes_J86 0 (nI (zlen.getD k 0)) (gi b.2 10 0 8) b.2) _
        rw [if_pos rfl]
        unfold fX10_takes_J86
        rw [zob_t _ (show zbo 0 = true by decide), e, Int32.add_zero]
        exact ok_some ⟨fun y => absurd y.2.2 w, fun _ => ⟨rfl, by rw [gi_wi, if_pos ⟨rfl, rfl, rfl⟩]⟩, FS_wf (by decide) (by decide) f⟩
    · rw [if_neg y]
      refine ok_mono (no b.1 v0) (fun d hd => ⟨fun w => absurd ?_ y, fun _ => ⟨hd.1, hd.2.1⟩, hd.2.2⟩)
      rw [w1 (Wd_lw hB hk w.2.2 w.2.1 qt), w.2.1]
  · rw [if_neg g, Option.bind_some, if_pos (show (0 : Int32) = 0 from rfl)]
    exact ok_mono (no b.1 v0) (fun d hd => ⟨fun w => absurd w.1 g, fun _ => ⟨hd.1, hd.2.1⟩, hd.2.2⟩)
end LX
