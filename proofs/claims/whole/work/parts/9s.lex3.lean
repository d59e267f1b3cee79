/-! one step of reading, on both sides -/
section LX
variable {t : Nat} {T : Nat → Nat}
def LC (t : Nat) (T : Nat → Nat) (p q : Nat) (c : zM) : Prop := TC t T c ∧ TOK t T p q ∧ gi c 4 0 2 = nI p ∧ gi c 4 0 3 = nI q ∧ gi c 4 0 4 = Cs (sg t T p) ∧ gi c 4 0 5 = 0
def AR (t : Nat) (T : Nat → Nat) (a : Nat) (r : zM) : Prop := TR t T r ∧ gi r 10 0 9 = -1 ∧ gi r 10 0 8 = nI a
def LR (t : Nat) (T : Nat → Nat) (p : Nat) (r : zM) : Prop := ∃ a, AR t T a r ∧ En (sp t T) a p
def WR (t : Nat) (T : Nat → Nat) (F : Int32) (r : zM) : Prop := TR t T r ∧ gi r 10 0 9 = F ∧ F ≠ -1 ∧ ∃ a, gi r 10 0 8 = nI a ∧ a ≤ t
def FL (p v : Nat) : Int32 := nI (8 * p + v)
theorem TOK_le {p q : Nat} (h : TOK t T p q) : p ≤ q := by
  obtain ⟨a1, a2, a3, a4, a5⟩ := h
  by_cases e : p = t
  · rw [a4 e, e]; exact Nat.le_refl t
  · have l : p < t := by omega
    by_cases y : lw t T p
    · exact ((a5 l).1 y).1
    · by_cases z : dg t T p
      · exact (((a5 l).2 y).1 z).1
      · rw [((a5 l).2 y).2 z]; omega
theorem TOK_1 {p q : Nat} (h : TOK t T p q) (hp : p < t) (h1 : ¬ lw t T p) (h2 : ¬ dg t T p) : q = p + 1 := ((h.2.2.2.2 hp).2 h1).2 h2
theorem TOK_ex {p : Nat} (hp : p ≤ t) (hs : ¬ sp t T p) : ∃ q, TOK t T p q := by
  by_cases e : p = t
  · exact ⟨t, hp, Nat.le_refl t, hs, fun _ => rfl, fun q => by omega⟩
  · have l : p < t := by omega
    by_cases y : lw t T p
    · obtain ⟨q, q1, q2⟩ := En_ex (P := lw t T) lw_e t p (by omega) hp
      exact ⟨q, hp, q2, hs, fun w => absurd w e, fun _ => ⟨fun _ => q1, fun w => absurd y w⟩⟩
    · by_cases z : dg t T p
      · obtain ⟨q, q1, q2⟩ := En_ex (P := dg t T) dg_e t p (by omega) hp
        exact ⟨q, hp, q2, hs, fun w => absurd w e, fun _ => ⟨fun w => absurd w y, fun _ => ⟨fun _ => q1, fun w => absurd z w⟩⟩⟩
      · exact ⟨p + 1, hp, by omega, hs, fun w => absurd w e, fun _ => ⟨fun w => absurd w y, fun _ => ⟨fun w => absurd w z, fun _ => rfl⟩⟩⟩
theorem AR_fs {a : Nat} {r r' : zM} {ks : List Nat} (h : AR t T a r) (f : FS ks r r') (hk : ∀ k ∈ [2007, 43, 2008, 2009], k ∉ ks) : AR t T a r' :=
  ⟨TR_fs h.1 f (fun k hk2 => hk k (zss (a := [2007, 43]) (by decide) k hk2)), by rw [FSf f 0 (by decide) (hk 2009 (by decide))]; exact h.2.1, by rw [FSf f 0 (by decide) (hk 2008 (by decide))]; exact h.2.2⟩
theorem LR_fs {p : Nat} {r r' : zM} {ks : List Nat} (h : LR t T p r) (f : FS ks r r') (hk : ∀ k ∈ [2007, 43, 2008, 2009], k ∉ ks) : LR t T p r' := by
  obtain ⟨a, a1, a2⟩ := h
  exact ⟨a, AR_fs a1 f hk, a2⟩
theorem WR_fs {F : Int32} {r r' : zM} {ks : List Nat} (h : WR t T F r) (f : FS ks r r') (hk : ∀ k ∈ [2007, 43, 2008, 2009], k ∉ ks) : WR t T F r' := by
  obtain ⟨a1, a2, a3, a, a4, a5⟩ := h
  exact ⟨TR_fs a1 f (fun k hk2 => hk k (zss (a := [2007, 43]) (by decide) k hk2)), by rw [FSf f 0 (by decide) (hk 2009 (by decide))]; exact a2, a3, a, by rw [FSf f 0 (by decide) (hk 2008 (by decide))]; exact a4, a5⟩
theorem LC_fs {p q : Nat} {c c' : zM} {ks : List Nat} (h : LC t T p q c) (f : FS ks c c') (hk : ∀ k ∈ [104, 36, 1401, 1402, 1403, 1404, 1405], k ∉ ks) : LC t T p q c' :=
  ⟨TC_fs h.1 f (fun k hk2 => hk k (zss (a := [104, 1401, 36]) (by decide) k hk2)), h.2.1, by rw [FSf f 0 (by decide) (hk 1402 (by decide))]; exact h.2.2.1, by rw [FSf f 0 (by decide) (hk 1403 (by decide))]; exact h.2.2.2.1, by rw [FSf f 0 (by decide) (hk 1404 (by decide))]; exact h.2.2.2.2.1, by rw [FSf f 0 (by decide) (hk 1405 (by decide))]; exact h.2.2.2.2.2⟩
theorem AR_LR {p : Nat} {r : zM} (h : AR t T p r) (hs : ¬ sp t T p) : LR t T p r := ⟨p, h, Nat.le_refl p, fun i h1 h2 => by omega, hs⟩
theorem pass_LC {p q : Nat} {c : zM} (hB : TB t T) (h : LC t T p q c) : ok (fX4_pass c) (fun c' => ∃ p' q', En (sp t T) q p' ∧ LC t T p' q' c' ∧ FS [1402, 1403, 1404] c c') := by
  obtain ⟨h1, h2, h3, h4, h5, h6⟩ := h
  refine ok_mono (pX4_pass hB h1 h4 h2.2.1) (fun c' hc => ?_)
  obtain ⟨p', q', a1, a2, a3, a4, a5, f⟩ := hc
  exact ⟨p', q', a1, ⟨TC_fs h1 f (by decide), a2, a3, a4, a5, by rw [FSf f 0 (by decide) (by decide)]; exact h6⟩, f⟩
theorem qRight {r : zM} (h : gi r 10 0 9 = -1) : fX10_isRight r = some 1 := by unfold fX10_isRight; rw [if_pos h]
theorem qWrong {r : zM} (h : ¬ gi r 10 0 9 = -1) : fX10_isRight r = some 0 := by unfold fX10_isRight; rw [if_neg h]
theorem WR.no {F : Int32} {r : zM} (h : WR t T F r) : fX10_isRight r = some 0 := qWrong (by rw [h.2.1]; exact h.2.2.1)
theorem qFail {r : zM} {p v : Nat} (h : gi r 10 0 9 = -1) : fX10_fails (nI v) (nI p) r = some (wi r 10 0 9 (FL p v)) := by
  unfold fX10_fails
  rw [qRight h, Option.bind_some, if_neg n10, l8, pk_mul, nI_add]
  rfl
theorem qFailW {F : Int32} {r : zM} {v x : Int32} (h : WR t T F r) : fX10_fails v x r = some r := by
  unfold fX10_fails
  rw [h.no, Option.bind_some, if_pos rfl]
theorem FL_ne (hB : TB t T) {p v : Nat} (hp : p ≤ t) (hv : v < 8) : FL p v ≠ -1 := nIm1 (by have := hB.1; omega)
theorem WR_of (hB : TB t T) {r : zM} {p v a : Nat} (hT : TR t T r) (h : gi r 10 0 8 = nI a) (ha : a ≤ t) (hp : p ≤ t) (hv : v < 8) : WR t T (FL p v) (wi r 10 0 9 (FL p v)) :=
  ⟨TR_fs hT (FS_wf (ks := [2009]) (by decide) (by decide) (FS_refl r)) (by decide), by rw [gi_wi, if_pos ⟨rfl, rfl, rfl⟩], FL_ne hB hp hv, a, by rw [gi_wi, if_neg (by omega)]; exact h, ha⟩
theorem En_t {a p : Nat} (h : En (sp t T) a p) (hp : p ≤ t) : a ≤ t := Nat.le_trans h.1 hp
theorem rNext {p : Nat} {r : zM} (hB : TB t T) (h : LR t T p r) (hp : p ≤ t) : ok (fX10_next r) (fun b => b.1 = Rs (sg t T p) ∧ AR t T p b.2 ∧ FS [2008] r b.2) := by
  obtain ⟨a, ⟨a1, a2, a3⟩, a4⟩ := h
  refine ok_mono (qNext hB a1 a3 a4 hp) (fun b hb => ⟨hb.1, ⟨TR_fs a1 hb.2.2 (by decide), ?_, hb.2.1⟩, hb.2.2⟩)
  rw [FSf hb.2.2 0 (by decide) (by decide)]; exact a2
theorem rCap {p : Nat} {r : zM} (hB : TB t T) (h : LR t T p r) (hp : p ≤ t) : ok (fX10_isCapital r) (fun b => (65 ≤ sg t T p ∧ sg t T p ≤ 90 → b.1 = 1) ∧ (¬ (65 ≤ sg t T p ∧ sg t T p ≤ 90) → b.1 = 0) ∧ AR t T p b.2 ∧ FS [2008] r b.2) := by
  unfold fX10_isCapital
  refine ok_bind (rNext hB h hp) (fun b hb => ?_)
  rw [hb.1, qin (Rs_65 _ (sg_lt hB p)), Option.bind_some]
  by_cases y : 65 ≤ sg t T p ∧ sg t T p ≤ 90
  · rw [if_pos y]; exact ok_zob (by decide) (ok_some ⟨fun _ => rfl, fun w => absurd y w, hb.2.1, hb.2.2⟩)
  · rw [if_neg y]; exact ok_zob (by decide) (ok_some ⟨fun w => absurd w y, fun _ => rfl, hb.2.1, hb.2.2⟩)
theorem rSign {p v : Nat} {r : zM} (hB : TB t T) (h : LR t T p r) (hp : p ≤ t) (hv : v < 128) : ok (fX10_takesSign (nI v) r) (fun b => (sg t T p = v → b.1 = 1 ∧ AR t T (p + 1) b.2) ∧ (¬ sg t T p = v → b.1 = 0 ∧ AR t T p b.2) ∧ FS [2008] r b.2) := by
  unfold fX10_takesSign
  rw [qRight (by obtain ⟨a, a1, -⟩ := h; exact a1.2.1), Option.bind_some, if_neg n10]
  refine ok_bind (rNext hB h hp) (fun b hb => ?_)
  obtain ⟨b1, b2, b3⟩ := hb
  rw [b1]
  by_cases y : sg t T p = v
  · rw [if_pos ((Rs_v _ (sg_lt hB p) v hv).mpr y)]
    unfold fX10_takesSign_J20
    rw [show fX10_truth 1 b.2 = some 1 from rfl, Option.bind_some, zob_t _ (show zbo 1 = true by decide), b2.2.2, nI_1]
    have f := FS_wf (v := nI (p + 1)) (k := 10) (s := 8) (i := 0) (ks := [2008]) (by decide) (by decide) b3
    refine ok_some ⟨fun _ => ⟨rfl, ?_, ?_, ?_⟩, fun w => absurd y w, f⟩
    · exact TR_fs b2.1 (FS_wf (ks := [2008]) (by decide) (by decide) (FS_refl b.2)) (by decide)
    · rw [gi_wi, if_neg (by omega)]; exact b2.2.1
    · rw [gi_wi, if_pos ⟨rfl, rfl, rfl⟩]
  · rw [if_neg (fun w => y ((Rs_v _ (sg_lt hB p) v hv).mp w))]
    unfold fX10_takesSign_J19 fX10_takesSign_J20
    rw [show fX10_truth 0 b.2 = some 0 from rfl, Option.bind_some, zob_t _ (show zbo 0 = true by decide), b2.2.2, Int32.add_zero]
    have f := FS_wf (v := nI p) (k := 10) (s := 8) (i := 0) (ks := [2008]) (by decide) (by decide) b3
    refine ok_some ⟨fun w => absurd w y, fun _ => ⟨rfl, ?_, ?_, ?_⟩, f⟩
    · exact TR_fs b2.1 (FS_wf (ks := [2008]) (by decide) (by decide) (FS_refl b.2)) (by decide)
    · rw [gi_wi, if_neg (by omega)]; exact b2.2.1
    · rw [gi_wi, if_pos ⟨rfl, rfl, rfl⟩]
theorem wSign {F v : Int32} {r : zM} (h : WR t T F r) : ok (fX10_takesSign v r) (fun b => b.1 = 0 ∧ WR t T F b.2 ∧ FS [2008] r b.2) := by
  obtain ⟨a1, a2, a3, a, a4, a5⟩ := id h
  unfold fX10_takesSign
  rw [h.no, Option.bind_some, if_pos (show (0 : Int32) = 0 from rfl)]
  unfold fX10_takesSign_J19 fX10_takesSign_J20
  rw [show fX10_truth 0 r = some 0 from rfl, Option.bind_some, zob_t _ (show zbo 0 = true by decide), a4, Int32.add_zero]
  have f := FS_wf (v := nI a) (k := 10) (s := 8) (i := 0) (ks := [2008]) (by decide) (by decide) (FS_refl r)
  exact ok_some ⟨rfl, ⟨TR_fs a1 f (by decide), by rw [gi_wi, if_neg (by omega)]; exact a2, a3, a, by rw [gi_wi, if_pos ⟨rfl, rfl, rfl⟩], a5⟩, f⟩
theorem rMust {p v : Nat} {r : zM} (hB : TB t T) (h : LR t T p r) (hp : p ≤ t) (hv : v < 128) : ok (fX10_must (nI v) r) (fun r' => (sg t T p = v → AR t T (p + 1) r') ∧ (¬ sg t T p = v → WR t T (FL p 1) r') ∧ FS [2008, 2009] r r') := by
  unfold fX10_must
  refine ok_bind (rSign hB h hp hv) (fun b hb => ?_)
  obtain ⟨b1, b2, b3⟩ := hb
  by_cases y : sg t T p = v
  · rw [(b1 y).1, if_neg n10]
    exact ok_some ⟨fun _ => (b1 y).2, fun w => absurd y w, FS_mono (zss (by decide)) b3⟩
  · obtain ⟨c1, c2, c3, c4⟩ := b2 y
    rw [c1, if_pos (show (0 : Int32) = 0 from rfl), c4, l1, qFail c3, Option.bind_some]
    exact ok_some ⟨fun w => absurd w y, fun _ => WR_of hB c2 c4 hp hp (by omega), FS_wf (by decide) (by decide) (FS_mono (zss (by decide)) b3)⟩
theorem wMust {F v : Int32} {r : zM} (h : WR t T F r) : ok (fX10_must v r) (fun r' => WR t T F r' ∧ FS [2008] r r') := by
  unfold fX10_must
  refine ok_bind (wSign (v := v) h) (fun b hb => ?_)
  rw [hb.1, if_pos (show (0 : Int32) = 0 from rfl), qFailW hb.2.1, Option.bind_some]
  exact ok_some ⟨hb.2.1, hb.2.2⟩
theorem rLetter {p q : Nat} {r : zM} (hB : TB t T) (h : LR t T p r) (hK : TOK t T p q) : ok (fX10_letter r) (fun b => (lw t T p ∧ q = p + 1 → b.1 = nI (sg t T p - 97) ∧ AR t T q b.2) ∧ (¬ (lw t T p ∧ q = p + 1) → WR t T (FL p 1) b.2) ∧ gi b.2 10 0 10 = nI p ∧ FS [2008, 2009, 2010] r b.2) := by
  have ht := hB.1
  have hp := hK.1
  obtain ⟨a, ⟨a1, a2, a3⟩, a4⟩ := h
  unfold fX10_letter
  refine ok_bind (qWord hB a1 a3 a4 hK) (fun b hb => ?_)
  obtain ⟨w1, w2, e, f⟩ := hb
  rw [e]
  have f1 := FS_wf (v := nI p) (k := 10) (s := 10) (i := 0) (ks := [2008, 2009, 2010]) (by decide) (by decide) (FS_mono (zss (by decide)) f)
  generalize hd : wi b.2 10 0 10 (nI p) = d at f1 ⊢
  have d8 : gi d 10 0 8 = nI p := by rw [← hd, gi_wi, if_neg (by omega)]; exact e
  have d10 : gi d 10 0 10 = nI p := by rw [← hd, gi_wi, if_pos ⟨rfl, rfl, rfl⟩]
  have d9 : gi d 10 0 9 = -1 := by rw [← hd, gi_wi, if_neg (by omega), FSf f 0 (by decide) (by decide)]; exact a2
  have hTd := TR_fs a1 f1 (by decide)
  by_cases y : lw t T p ∧ q = p + 1
  · have lt : p < t := by
      by_cases q : p < t
      · exact q
      · exact absurd y.1 (lw_e p (by omega))
    have ly := y.1
    unfold lw at ly
    rw [w1 y.1, if_pos (show nI (q - p) = 1 by rw [y.2, show p + 1 - p = 1 by omega]; rfl), d8, nI_1, gi_wi, if_pos ⟨rfl, rfl, rfl⟩, nI_pred, zo _ (by omega) (by omega), gi_wi, if_neg (by omega), zn_n (by omega), hTd.2 p lt]
    have et : Cs (T p) = nI (sg t T p) := by rw [sg_l lt] at ly ⊢; exact (Cs_v (T p) (by omega) (T p) (by omega)).mpr rfl
    rw [et, show (97 : Int32) = nI 97 from rfl, pk_sub ly.1]
    have f2 := FS_wf (v := nI (p + 1)) (k := 10) (s := 8) (i := 0) (ks := [2008, 2009, 2010]) (by decide) (by decide) f1
    refine ok_some ⟨fun _ => ⟨rfl, TR_fs a1 f2 (by decide), ?_, ?_⟩, fun w => absurd y w, ?_, f2⟩
    · rw [gi_wi, if_neg (by omega)]; exact d9
    · rw [gi_wi, if_pos ⟨rfl, rfl, rfl⟩, y.2]
    · rw [gi_wi, if_neg (by omega)]; exact d10
  · have n1 : ¬ b.1 = 1 := fun w => by
      by_cases yl : lw t T p
      · rw [w1 yl] at w
        have := (nIeq (b := 1) (by have := hK.2.1; omega) (by omega)).mp w
        exact y ⟨yl, by omega⟩
      · rw [w2 yl] at w
        exact absurd w (by decide)
    rw [if_neg n1, d8, l1, qFail d9, Option.bind_some]
    exact ok_some ⟨fun w => absurd w y, fun _ => WR_of hB hTd d8 hp hp (by omega), by rw [gi_wi, if_neg (by omega)]; exact d10, FS_wf (by decide) (by decide) f1⟩
theorem wLetter {F : Int32} {r : zM} (hB : TB t T) (h : WR t T F r) : ok (fX10_letter r) (fun b => WR t T F b.2 ∧ FS [2008, 2009, 2010] r b.2) := by
  have ht := hB.1
  obtain ⟨a1, a2, a3, a, a4, a5⟩ := id h
  obtain ⟨p, p1, p2⟩ := En_ex (P := sp t T) sp_e t a (by omega) a5
  obtain ⟨q, hK⟩ := TOK_ex p2 p1.2.2
  unfold fX10_letter
  refine ok_bind (qWord hB a1 a4 p1 hK) (fun b hb => ?_)
  obtain ⟨w1, w2, e, f⟩ := hb
  rw [e]
  have f1 := FS_wf (v := nI p) (k := 10) (s := 10) (i := 0) (ks := [2008, 2009, 2010]) (by decide) (by decide) (FS_mono (zss (by decide)) f)
  generalize hd : wi b.2 10 0 10 (nI p) = d at f1 ⊢
  have d8 : gi d 10 0 8 = nI p := by rw [← hd, gi_wi, if_neg (by omega)]; exact e
  have d9 : gi d 10 0 9 = F := by rw [← hd, gi_wi, if_neg (by omega), FSf f 0 (by decide) (by decide)]; exact a2
  have hTd := TR_fs a1 f1 (by decide)
  by_cases y : b.1 = 1
  · have lt : p < t := by
      by_cases q : p < t
      · exact q
      · rw [w2 (lw_e p (by omega))] at y
        exact absurd y (by decide)
    rw [if_pos y, d8, nI_1, gi_wi, if_pos ⟨rfl, rfl, rfl⟩, nI_pred, zo _ (by omega) (by omega)]
    have f2 := FS_wf (v := nI (p + 1)) (k := 10) (s := 8) (i := 0) (ks := [2008, 2009, 2010]) (by decide) (by decide) f1
    exact ok_some ⟨⟨TR_fs a1 f2 (by decide), by rw [gi_wi, if_neg (by omega)]; exact d9, a3, p + 1, by rw [gi_wi, if_pos ⟨rfl, rfl, rfl⟩], by omega⟩, f2⟩
  · have hW : WR t T F d := ⟨hTd, d9, a3, p, d8, p2⟩
    rw [if_neg y, qFailW hW, Option.bind_some]
    exact ok_some ⟨hW, f1⟩
theorem cName {p q : Nat} {c : zM} (hB : TB t T) (h : LC t T p q c) : (65 ≤ sg t T p ∧ sg t T p ≤ 90 → fX4_nameHere c = some (nI (sg t T p - 65))) ∧ (¬ (65 ≤ sg t T p ∧ sg t T p ≤ 90) → fX4_nameHere c = some (-1)) := by
  unfold fX4_nameHere
  rw [h.2.2.2.2.1]
  have k := Cs_65 _ (sg_lt hB p)
  constructor
  · intro y
    rw [if_neg (k.mpr y).1, if_neg (k.mpr y).2, (Cs_v _ (sg_lt hB p) (sg t T p) (by omega)).mpr rfl, show (65 : Int32) = nI 65 from rfl, pk_sub y.1]
  · intro y
    by_cases w : Cs (sg t T p) < 65
    · rw [if_pos w]
    · rw [if_neg w]
      by_cases w' : 90 < Cs (sg t T p)
      · rw [if_pos w']
      · exact absurd (k.mp ⟨w, w'⟩) y
theorem cMember {p q : Nat} {c : zM} (hB : TB t T) (h : LC t T p q c) : (lw t T p ∧ q = p + 1 → fX4_memberHere c = some (nI (sg t T p - 97))) ∧ (¬ (lw t T p ∧ q = p + 1) → fX4_memberHere c = some (-1)) := by
  have ht := hB.1
  have h1 := h.2.1.1
  have h2 := h.2.1.2.1
  unfold fX4_memberHere
  rw [h.2.2.2.2.1, h.2.2.1, h.2.2.2.1, nI_1]
  have k := Cs_97 _ (sg_lt hB p)
  constructor
  · intro y
    have ly := y.1
    unfold lw at ly
    rw [if_pos (by rw [y.2]), if_neg (k.mpr ly).1, if_neg (k.mpr ly).2, (Cs_v _ (sg_lt hB p) (sg t T p) (by omega)).mpr rfl, show (97 : Int32) = nI 97 from rfl, pk_sub ly.1]
  · intro y
    by_cases e : q = p + 1
    · rw [if_pos (by rw [e])]
      by_cases w : Cs (sg t T p) < 97
      · rw [if_pos w]
      · rw [if_neg w]
        by_cases w' : 122 < Cs (sg t T p)
        · rw [if_pos w']
        · exact absurd ⟨k.mp ⟨w, w'⟩, e⟩ y
    · rw [if_neg (fun w => e ((nIeq (by omega) (by omega)).mp w))]
end LX
