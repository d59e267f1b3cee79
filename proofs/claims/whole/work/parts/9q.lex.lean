/-! reading signs and words, on both sides -/
def Cs (k : Nat) : Int32 := if k < 128 then nI k else if k < 256 then nI k - 256 else 256
def Rs (k : Nat) : Int32 := if k < 256 then nI k else -1
def sg (t : Nat) (T : Nat → Nat) (p : Nat) : Nat := if p < t then T p else 256
def TC (t : Nat) (T : Nat → Nat) (c : zM) : Prop := gr c 4 0 = some 0 ∧ gi c 4 0 1 = nI t ∧ ∀ i, i < t → gi c 36 0 i = Cs (T i)
def TR (t : Nat) (T : Nat → Nat) (r : zM) : Prop := gi r 10 0 7 = nI t ∧ ∀ i, i < t → gi r 43 0 i = Cs (T i)
def TB (t : Nat) (T : Nat → Nat) : Prop := t ≤ 400 ∧ ∀ i, T i < 256
def En (P : Nat → Prop) (a q : Nat) : Prop := a ≤ q ∧ (∀ i, a ≤ i → i < q → P i) ∧ ¬ P q
theorem En_u {P : Nat → Prop} {a q q' : Nat} (h : En P a q) (h' : En P a q') : q = q' := by
  by_cases e : q < q'
  · exact absurd (h'.2.1 q h.1 e) h.2.2
  · by_cases e' : q' < q
    · exact absurd (h.2.1 q' h'.1 e') h'.2.2
    · omega
theorem En_ex {P : Nat → Prop} {t : Nat} (hP : ∀ i, t ≤ i → ¬ P i) : ∀ (f a : Nat), t ≤ a + f → a ≤ t → ∃ q, En P a q ∧ q ≤ t
  | 0, a, h, ha => ⟨a, ⟨Nat.le_refl a, fun i h1 h2 => by omega, hP a (by omega)⟩, ha⟩
  | f + 1, a, h, ha => by
    by_cases p : P a
    · by_cases e : a = t
      · exact absurd p (hP a (by omega))
      · obtain ⟨q, q1, q2⟩ := En_ex hP f (a + 1) (by omega) (by omega)
        refine ⟨q, ⟨by have := q1.1; omega, fun i h1 h2 => ?_, q1.2.2⟩, q2⟩
        by_cases e : i = a
        · rw [e]; exact p
        · exact q1.2.1 i (by omega) h2
    · exact ⟨a, ⟨Nat.le_refl a, fun i h1 h2 => by omega, p⟩, ha⟩
def sp (t : Nat) (T : Nat → Nat) (i : Nat) : Prop := sg t T i = 32
def lw (t : Nat) (T : Nat → Nat) (i : Nat) : Prop := 97 ≤ sg t T i ∧ sg t T i ≤ 122
def dg (t : Nat) (T : Nat → Nat) (i : Nat) : Prop := 48 ≤ sg t T i ∧ sg t T i ≤ 57
theorem sg_e {t : Nat} {T : Nat → Nat} {i : Nat} (h : t ≤ i) : sg t T i = 256 := if_neg (by omega)
theorem sg_l {t : Nat} {T : Nat → Nat} {i : Nat} (h : i < t) : sg t T i = T i := if_pos h
theorem sg_lt {t : Nat} {T : Nat → Nat} (hB : TB t T) (i : Nat) : sg t T i < 257 := by
  have := hB.2 i
  unfold sg
  split <;> omega
theorem sp_e {t : Nat} {T : Nat → Nat} : ∀ i, t ≤ i → ¬ sp t T i := fun i h q => by unfold sp at q; rw [sg_e h] at q; omega
theorem lw_e {t : Nat} {T : Nat → Nat} : ∀ i, t ≤ i → ¬ lw t T i := fun i h q => by unfold lw at q; rw [sg_e h] at q; omega
theorem dg_e {t : Nat} {T : Nat → Nat} : ∀ i, t ≤ i → ¬ dg t T i := fun i h q => by unfold dg at q; rw [sg_e h] at q; omega
theorem Cs_n : ∀ j, j < 128 → Cs (128 + j) < 0 := by decide +kernel
theorem Cs_v : ∀ k, k < 257 → ∀ v, v < 128 → (Cs k = nI v ↔ k = v) := fun k hk v hv => by
  by_cases h : k < 128
  · unfold Cs; rw [if_pos h]; exact nIeq (by omega) (by omega)
  · by_cases h2 : k < 256
    · have := Cs_n (k - 128) (by omega)
      rw [show 128 + (k - 128) = k by omega] at this
      exact ⟨fun q => by rw [q] at this; exact absurd this (nI_pos (by omega)), fun q => by omega⟩
    · unfold Cs; rw [if_neg h, if_neg h2]
      exact ⟨fun q => by have := (nIeq (a := 256) (by omega) (by omega)).mp q; omega, fun q => by omega⟩
theorem Rs_v : ∀ k, k < 257 → ∀ v, v < 128 → (Rs k = nI v ↔ k = v) := fun k hk v hv => by
  unfold Rs
  by_cases h2 : k < 256
  · rw [if_pos h2]; exact nIeq (by omega) (by omega)
  · rw [if_neg h2]; exact ⟨fun q => absurd q (m1ne (by omega)), fun q => by omega⟩
theorem Cs_97 : ∀ k, k < 257 → ((¬ Cs k < 97 ∧ ¬ 122 < Cs k) ↔ (97 ≤ k ∧ k ≤ 122)) := by decide +kernel
theorem Cs_48 : ∀ k, k < 257 → ((¬ Cs k < 48 ∧ ¬ 57 < Cs k) ↔ (48 ≤ k ∧ k ≤ 57)) := by decide +kernel
theorem Cs_65 : ∀ k, k < 257 → ((¬ Cs k < 65 ∧ ¬ 90 < Cs k) ↔ (65 ≤ k ∧ k ≤ 90)) := by decide +kernel
theorem Rs_48 : ∀ k, k < 257 → ((¬ Rs k < 48 ∧ ¬ 57 < Rs k) ↔ (48 ≤ k ∧ k ≤ 57)) := by decide +kernel
theorem Rs_65 : ∀ k, k < 257 → ((¬ Rs k < 65 ∧ ¬ 90 < Rs k) ↔ (65 ≤ k ∧ k ≤ 90)) := by decide +kernel
theorem Rs_m1 : ∀ k, k < 257 → (Rs k = -1 ↔ k = 256) := by decide +kernel
theorem Cs_255 : ∀ k, k < 256 → Cs k &&& 255 = Rs k := by decide +kernel
theorem qin {x lo hi : Int32} {mm : zM} {P : Prop} [Decidable P] (h : (¬ x < lo ∧ ¬ hi < x) ↔ P) : fX10_in x lo hi mm = some (if P then 1 else 0) := by
  unfold fX10_in
  by_cases p : P
  · rw [if_neg (h.mpr p).1, if_neg (h.mpr p).2, if_pos p]
  · rw [if_neg p]
    by_cases q : x < lo
    · rw [if_pos q]
    · rw [if_neg q]
      by_cases q' : hi < x
      · rw [if_pos q']
      · exact absurd (h.mp ⟨q, q'⟩) p
theorem TC_fs {t : Nat} {T : Nat → Nat} {c c' : zM} {ks : List Nat} (h : TC t T c) (f : FS ks c c') (hk : ∀ k ∈ [104, 1401, 36], k ∉ ks) : TC t T c' :=
  ⟨by rw [FSr f 0 (hk 104 (by decide))]; exact h.1, by rw [FSf f 0 (by decide) (hk 1401 (by decide))]; exact h.2.1, fun i hi => by rw [FSa f 0 i (by decide) (hk 36 (by decide))]; exact h.2.2 i hi⟩
theorem TR_fs {t : Nat} {T : Nat → Nat} {r r' : zM} {ks : List Nat} (h : TR t T r) (f : FS ks r r') (hk : ∀ k ∈ [2007, 43], k ∉ ks) : TR t T r' :=
  ⟨by rw [FSf f 0 (by decide) (hk 2007 (by decide))]; exact h.1, fun i hi => by rw [FSa f 0 i (by decide) (hk 43 (by decide))]; exact h.2 i hi⟩
/-- a token from p to q -/
def TOK (t : Nat) (T : Nat → Nat) (p q : Nat) : Prop := p ≤ t ∧ q ≤ t ∧ ¬ sp t T p ∧ (p = t → q = t) ∧ (p < t → (lw t T p → En (lw t T) p q) ∧ (¬ lw t T p → (dg t T p → En (dg t T) p q) ∧ (¬ dg t T p → q = p + 1)))
theorem TOK_u {t : Nat} {T : Nat → Nat} {p q q' : Nat} (h : TOK t T p q) (h' : TOK t T p q') : q = q' := by
  obtain ⟨a1, a2, a3, a4, a5⟩ := h
  obtain ⟨b1, b2, b3, b4, b5⟩ := h'
  by_cases e : p = t
  · rw [a4 e, b4 e]
  · have l : p < t := by omega
    by_cases y : lw t T p
    · exact En_u ((a5 l).1 y) ((b5 l).1 y)
    · by_cases z : dg t T p
      · exact En_u (((a5 l).2 y).1 z) (((b5 l).2 y).1 z)
      · rw [((a5 l).2 y).2 z, ((b5 l).2 y).2 z]
section LX
variable {t : Nat} {T : Nat → Nat}
theorem pass_skip {c : zM} {a p : Nat} (hB : TB t T) (hT : TC t T c) (h2 : gi c 4 0 2 = nI a) (hE : En (sp t T) a p) (hp : p ≤ t) : ok (zloop fX4_pass_L8 zF c) (fun o => ∃ c', o = Sum.inl c' ∧ gi c' 4 0 2 = nI p ∧ FS [1402] c c') := by
  have ht := hB.1
  refine ok_for (fun i s => gi s 4 0 2 = nI i ∧ FS [1402] c s) (a := a) (b := p) hE.1 (by unfold zF; omega) ⟨h2, FS_refl c⟩ (fun i s h1 h2 hI => ?_) (fun s hI => ?_)
  · obtain ⟨e, f⟩ := hI
    have hT' := TC_fs hT f (by decide)
    have hs : sp t T i := hE.2.1 i h1 h2
    have e2 : T i = 32 := by unfold sp at hs; rw [sg_l (by omega)] at hs; exact hs
    unfold fX4_pass_L8
    rw [e, hT'.2.1, if_neg (fun q => by have := (nIle (by omega) (by omega)).mp q; omega), hT'.1, zob_t _ (show (some 0 == some 0) = true from rfl), zo _ (by omega) (by omega), zn_n (by omega), hT'.2.2 i (by omega), e2, if_pos (show Cs 32 = 32 by decide), nI_1]
    exact ok_some (Or.inl ⟨_, rfl, by rw [gi_wi, if_pos ⟨rfl, rfl, rfl⟩], FS_wf (by decide) (by decide) f⟩)
  · obtain ⟨e, f⟩ := hI
    have hT' := TC_fs hT f (by decide)
    unfold fX4_pass_L8
    rw [e, hT'.2.1]
    by_cases q : p = t
    · rw [q, if_pos (Int32.le_refl _)]
      exact ok_some ⟨_, rfl, s, rfl, by rw [e, q], f⟩
    · rw [if_neg (fun q => by have := (nIle (by omega) (by omega)).mp q; omega), hT'.1, zob_t _ (show (some 0 == some 0) = true from rfl), zo _ (by omega) (by omega), zn_n (by omega), hT'.2.2 p (by omega), if_neg (fun y => hE.2.2 (by
        unfold sp
        rw [sg_l (by omega)]
        exact (Cs_v (T p) (by have := hB.2 p; omega) 32 (by omega)).mp y))]
      exact ok_some ⟨_, rfl, s, rfl, e, f⟩
theorem pass_run {c : zM} {lo hi : Int32} {P : Nat → Prop} {a q : Nat} (hB : TB t T) (hT : TC t T c) (h3 : gi c 4 0 3 = nI a) (hE : En P a q) (hq : q ≤ t) (hP : ∀ i, i < t → ((¬ Cs (T i) < lo ∧ ¬ hi < Cs (T i)) ↔ P i)) : ok (zloop (fX4_pass_L134 lo hi) zF c) (fun o => ∃ c', o = Sum.inl c' ∧ gi c' 4 0 3 = nI q ∧ FS [1403] c c') := by
  have ht := hB.1
  refine ok_for (fun i s => gi s 4 0 3 = nI i ∧ FS [1403] c s) (a := a) (b := q) hE.1 (by unfold zF; omega) ⟨h3, FS_refl c⟩ (fun i s h1 h2 hI => ?_) (fun s hI => ?_)
  · obtain ⟨e, f⟩ := hI
    have hT' := TC_fs hT f (by decide)
    obtain ⟨y1, y2⟩ := (hP i (by omega)).mpr (hE.2.1 i h1 h2)
    unfold fX4_pass_L134
    rw [e, hT'.2.1, if_neg (fun q => by have := (nIle (by omega) (by omega)).mp q; omega), hT'.1, zob_t _ (show (some 0 == some 0) = true from rfl), zo _ (by omega) (by omega), zn_n (by omega), hT'.2.2 i (by omega), if_neg y1, zob_t _ (show (some 0 == some 0) = true from rfl), zo _ (by omega) (by omega), if_neg y2, nI_1]
    exact ok_some (Or.inl ⟨_, rfl, by rw [gi_wi, if_pos ⟨rfl, rfl, rfl⟩], FS_wf (by decide) (by decide) f⟩)
  · obtain ⟨e, f⟩ := hI
    have hT' := TC_fs hT f (by decide)
    unfold fX4_pass_L134
    rw [e, hT'.2.1]
    by_cases z : q = t
    · rw [z, if_pos (Int32.le_refl _)]
      exact ok_some ⟨_, rfl, s, rfl, by rw [e, z], f⟩
    · rw [if_neg (fun q => by have := (nIle (by omega) (by omega)).mp q; omega), hT'.1, zob_t _ (show (some 0 == some 0) = true from rfl), zo _ (by omega) (by omega), zn_n (by omega), hT'.2.2 q (by omega)]
      by_cases y1 : Cs (T q) < lo
      · rw [if_pos y1]; exact ok_some ⟨_, rfl, s, rfl, e, f⟩
      · rw [if_neg y1, zob_t _ (show (some 0 == some 0) = true from rfl), zo _ (by omega) (by omega)]
        by_cases y2 : hi < Cs (T q)
        · rw [if_pos y2]; exact ok_some ⟨_, rfl, s, rfl, e, f⟩
        · exact absurd ((hP q (by omega)).mp ⟨y1, y2⟩) hE.2.2
theorem pX4_pass {c : zM} {a : Nat} (hB : TB t T) (hT : TC t T c) (h3 : gi c 4 0 3 = nI a) (ha : a ≤ t) : ok (fX4_pass c) (fun c' => ∃ p q, En (sp t T) a p ∧ TOK t T p q ∧ gi c' 4 0 2 = nI p ∧ gi c' 4 0 3 = nI q ∧ gi c' 4 0 4 = Cs (sg t T p) ∧ FS [1402, 1403, 1404] c c') := by
  have ht := hB.1
  obtain ⟨p, p1, p2⟩ := En_ex (P := sp t T) sp_e t a (by omega) ha
  unfold fX4_pass
  rw [h3]
  have f0 : FS [1402, 1403, 1404] c (wi c 4 0 2 (nI a)) := FS_wf (by decide) (by decide) (FS_refl c)
  refine ok_bind (pass_skip hB (TC_fs hT f0 (by decide)) (by rw [gi_wi, if_pos ⟨rfl, rfl, rfl⟩]) p1 p2) (fun o ho => ?_)
  obtain ⟨c1, rfl, e1, f1⟩ := ho
  have f1' : FS [1402, 1403, 1404] c (wi c1 4 0 3 (nI p)) := FS_wf (by decide) (by decide) (FS_tr f0 (FS_mono (zss (by decide)) f1))
  show ok (if gi (wi c1 4 0 3 (gi c1 4 0 2)) 4 0 2 < gi (wi c1 4 0 3 (gi c1 4 0 2)) 4 0 1 then _ else _) _
  rw [e1]
  generalize hc2 : wi c1 4 0 3 (nI p) = c2 at *
  have hT2 := TC_fs hT f1' (by decide)
  have e2 : gi c2 4 0 2 = nI p := by rw [← hc2, gi_wi, if_neg (by omega)]; exact e1
  have e3 : gi c2 4 0 3 = nI p := by rw [← hc2, gi_wi, if_pos ⟨rfl, rfl, rfl⟩]
  rw [e2, hT2.2.1]
  by_cases z : p = t
  · subst z
    rw [if_neg (fun q => Int32.lt_irrefl q)]
    refine ok_some ⟨p, p, p1, ⟨by omega, by omega, p1.2.2, fun _ => rfl, fun q => by omega⟩, ?_, ?_, ?_, FS_wf (by decide) (by decide) f1'⟩
    · rw [gi_wi, if_neg (by omega)]; exact e2
    · rw [gi_wi, if_neg (by omega)]; exact e3
    · rw [gi_wi, if_pos ⟨rfl, rfl, rfl⟩, sg_e (Nat.le_refl p)]; rfl
  · have lt : p < t := by omega
    have b := hB.2 p
    rw [if_pos ((nIlt (by omega) (by omega)).mpr lt), hT2.1, zob_t _ (show (some 0 == some 0) = true from rfl), zo _ (by omega) (by omega), zn_n (by omega), hT2.2.2 p lt]
    generalize hc3 : wi c2 4 0 4 (Cs (T p)) = c3
    have f3 : FS [1402, 1403, 1404] c c3 := by rw [← hc3]; exact FS_wf (by decide) (by decide) f1'
    have hT3 := TC_fs hT f3 (by decide)
    have g2 : gi c3 4 0 2 = nI p := by rw [← hc3, gi_wi, if_neg (by omega)]; exact e2
    have g3 : gi c3 4 0 3 = nI p := by rw [← hc3, gi_wi, if_neg (by omega)]; exact e3
    have g4 : gi c3 4 0 4 = Cs (T p) := by rw [← hc3, gi_wi, if_pos ⟨rfl, rfl, rfl⟩]
    rw [g4]
    have es : sg t T p = T p := sg_l lt
    have fin : ∀ (lo hi : Int32) (P : Nat → Prop), (∀ i, t ≤ i → ¬ P i) → (∀ i, i < t → ((¬ Cs (T i) < lo ∧ ¬ hi < Cs (T i)) ↔ P i)) → (∀ q, En P p q → q ≤ t → TOK t T p (if q = p then p + 1 else q)) → ok (fX4_pass_J133 lo hi c3) (fun c' => ∃ p q, En (sp t T) a p ∧ TOK t T p q ∧ gi c' 4 0 2 = nI p ∧ gi c' 4 0 3 = nI q ∧ gi c' 4 0 4 = Cs (sg t T p) ∧ FS [1402, 1403, 1404] c c') := by
      intro lo hi P hPe hP hK
      obtain ⟨q, q1, q2⟩ := En_ex hPe t p (by omega) p2
      have hK' := hK q q1 q2
      unfold fX4_pass_J133
      refine ok_bind (pass_run hB hT3 g3 q1 q2 hP) (fun o ho => ?_)
      obtain ⟨c4, rfl, k1, k2⟩ := ho
      have k2' : FS [1402, 1403, 1404] c c4 := FS_tr f3 (FS_mono (zss (by decide)) k2)
      have k3 : gi c4 4 0 2 = nI p := by rw [FSf k2 0 (by decide) (by decide)]; exact g2
      have k4 : gi c4 4 0 4 = Cs (sg t T p) := by rw [FSf k2 0 (by decide) (by decide), es]; exact g4
      show ok (if gi c4 4 0 3 = gi c4 4 0 2 then some (wi c4 4 0 3 (gi c4 4 0 3 + 1)) else some c4) _
      rw [k1, k3]
      by_cases y : q = p
      · rw [if_pos (by rw [y]), nI_1]
        rw [if_pos y] at hK'
        refine ok_some ⟨p, p + 1, p1, hK', ?_, ?_, ?_, FS_wf (by decide) (by decide) k2'⟩
        · rw [gi_wi, if_neg (by omega)]; exact k3
        · rw [gi_wi, if_pos ⟨rfl, rfl, rfl⟩, y]
        · rw [gi_wi, if_neg (by omega)]; exact k4
      · rw [if_neg (fun w => y ((nIeq (by omega) (by omega)).mp w))]
        rw [if_neg y] at hK'
        exact ok_some ⟨p, q, p1, hK', k3, k1, k4, k2'⟩
    have nolow : ¬ lw t T p → ok (fX4_pass_J108 c3) (fun c' => ∃ p q, En (sp t T) a p ∧ TOK t T p q ∧ gi c' 4 0 2 = nI p ∧ gi c' 4 0 3 = nI q ∧ gi c' 4 0 4 = Cs (sg t T p) ∧ FS [1402, 1403, 1404] c c') := fun nl => by
      unfold fX4_pass_J108 fX4_pass_J109 fX4_pass_J121
      rw [if_pos rfl, if_pos rfl]
      refine fin 48 57 (dg t T) dg_e (fun i hi => by unfold dg; rw [sg_l hi]; exact Cs_48 (T i) (by have := hB.2 i; omega)) (fun q h1 h2 => ⟨p2, ?_, p1.2.2, fun y => absurd y z, fun _ => ⟨fun y => absurd y nl, fun _ => ⟨fun y => ?_, fun y => ?_⟩⟩⟩)
      · split <;> omega
      · rw [if_neg (fun w => h1.2.2 (by rw [w]; exact y))]; exact h1
      · have : q = p := by
          by_cases w : q = p
          · exact w
          · exact absurd (h1.2.1 p (Nat.le_refl p) (by have := h1.1; omega)) y
        rw [if_pos this]
    have key := Cs_97 (T p) (by omega)
    by_cases y1 : Cs (T p) < 97
    · rw [if_pos y1]
      exact nolow (fun w => by unfold lw at w; rw [es] at w; exact (key.mpr w).1 y1)
    · rw [if_neg y1]
      by_cases y2 : 122 < Cs (T p)
      · rw [if_pos y2]
        exact nolow (fun w => by unfold lw at w; rw [es] at w; exact (key.mpr w).2 y2)
      · rw [if_neg y2]
        have yl : lw t T p := by unfold lw; rw [es]; exact key.mp ⟨y1, y2⟩
        unfold fX4_pass_J109 fX4_pass_J121
        rw [if_neg n10, if_neg n10]
        refine fin 97 122 (lw t T) lw_e (fun i hi => by unfold lw; rw [sg_l hi]; exact Cs_97 (T i) (by have := hB.2 i; omega)) (fun q h1 h2 => ⟨p2, ?_, p1.2.2, fun y => absurd y z, fun _ => ⟨fun y => ?_, fun y => absurd yl y⟩⟩)
        · split <;> omega
        · rw [if_neg (fun w => h1.2.2 (by rw [w]; exact y))]; exact h1
end LX
