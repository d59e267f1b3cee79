/-! lines merged, on both sides -/
def fhv (H : Nat → Nat) (A : Nat → Nat → Nat) (o : Option Nat) : Int32 := match o with
  | none => -1
  | some k => nI (A k (H k))
theorem pX2_freeHead' {u R : Nat} {E H : Nat → Nat} {A : Nat → Nat → Nat} {c : zM} {o : Option Nat} (hP : PRw u R E H A) (hC : CRw R E H A c) (ho : IsF (FHk R E H A) R o) : fX2_freeHead c = some (fhv H A o) := by
  rw [pX2_freeHead hP hC ho]
  cases o <;> rfl
theorem qNextHead' {u R : Nat} {E H : Nat → Nat} {A : Nat → Nat → Nat} {r : zM} {o : Option Nat} (hP : PRw u R E H A) (hC : RRw R E H A r) (ho : IsF (FHk R E H A) R o) : fX10_nextHead (nI R) r = some (fhv H A o) := by
  rw [qNextHead hP hC ho]
  cases o <;> rfl
def lfv (o : Option Nat) : Int32 := match o with
  | none => 0
  | some _ => 1
theorem qIsLeft' {u R : Nat} {E H : Nat → Nat} {A : Nat → Nat → Nat} {r : zM} {o : Option Nat} (hP : PRw u R E H A) (hC : RRw R E H A r) (ho : IsF (fun k => H k < E k) R o) : fX10_isLeft (nI R) r = some (lfv o) := by
  rw [qIsLeft hP hC ho]
  cases o <;> rfl
def LUo (u : Nat) (c c' r r' : zM) : Prop := (∀ v, v ≠ u → gi c' 18 0 v = gi c 18 0 v ∧ gi c' 21 0 v = gi c 21 0 v ∧ (∀ s, gi c' 17 v s = gi c 17 v s) ∧ ∀ s, gi c' 20 v s = gi c 20 v s) ∧ (∀ v, v ≠ u → gi r' 46 0 v = gi r 46 0 v ∧ gi r' 48 0 v = gi r 48 0 v) ∧ ∀ s, s < 12 * u ∨ 12 * u + 12 ≤ s → gi r' 45 0 s = gi r 45 0 s ∧ gi r' 47 0 s = gi r 47 0 s
theorem RLj_o {u v : Nat} {c c' r r' : zM} (h : RLj c r v) (hv : v ≠ u) (o : LUo u c c' r r') : RLj c' r' v := by
  obtain ⟨L, K, L12, K12, e1, e2, e3, e4, e5, e6⟩ := h
  obtain ⟨a1, a2, a3, a4⟩ := o.1 v hv
  obtain ⟨b1, b2⟩ := o.2.1 v hv
  refine ⟨L, K, L12, K12, by rw [a1]; exact e1, by rw [b1]; exact e2, fun i hi => ?_, by rw [a2]; exact e4, by rw [b2]; exact e5, fun i hi => ?_⟩
  · rw [a3, (o.2.2 (12 * v + i) (by omega)).1]; exact e3 i hi
  · rw [a4, (o.2.2 (12 * v + i) (by omega)).2]; exact e6 i hi
def Rem (R : Nat) (E H : Nat → Nat) (A : Nat → Nat → Nat) (t : Nat) : Prop := ∀ k, k < R → ∀ m, H k ≤ m → m < E k → A k m ≠ t
theorem Rem_drop {R t x : Nat} {E H : Nat → Nat} {A : Nat → Nat → Nat} (h : Rem R E H A x) : Rem R E (dH E H A t) A x := fun k hk m h1 h2 => h k hk m (by
  unfold dH at h1
  split at h1 <;> omega) h2
theorem Rem_new {R t : Nat} {E H : Nat → Nat} {A : Nat → Nat → Nat} (h : ∀ j, j < R → ¬ TLk E H A t j) : Rem R E (dH E H A t) A t := fun k hk m h1 h2 q => by
  unfold dH at h1
  split at h1
  · exact h k hk ⟨m, by omega, h2, q⟩
  · rename_i hn
    by_cases e : m = H k
    · exact hn ⟨by omega, by rw [← e]; exact q⟩
    · exact h k hk ⟨m, by omega, h2, q⟩
def LnI (u p i : Nat) (E H : Nat → Nat) (A : Nat → Nat → Nat) (V : Nat → Nat) (c r cm rm : zM) : Prop := 1 ≤ i ∧ i ≤ 12 ∧ PRw u (p + 1) E H A ∧ CRw (p + 1) E H A cm ∧ RRw (p + 1) E H A rm ∧ V 0 = u ∧ (∀ j, 1 ≤ j → j < i → V j < u ∧ Rem (p + 1) E H A (V j)) ∧ (∀ a b, 1 ≤ a → a < b → b < i → V a ≠ V b) ∧ (∀ j, j < i → gi cm 17 u j = nI (V j) ∧ gi rm 45 0 (12 * u + j) = nI (V j)) ∧ (∀ v s, v ≠ u → gi cm 17 v s = gi c 17 v s) ∧ (∀ s, s < 12 * u ∨ 12 * u + 12 ≤ s → gi rm 45 0 s = gi r 45 0 s) ∧ FS [17, 25] c cm ∧ FS [45, 51] r rm
theorem merge_loop {u p : Nat} {E H : Nat → Nat} {A : Nat → Nat → Nat} {c r : zM} {o : Option Nat} (hu : u < 12) (hP : PRw u (p + 1) E H A) (hC : CRw (p + 1) E H A c) (hR : RRw (p + 1) E H A r) (ho : IsF (FHk (p + 1) E H A) (p + 1) o) : ok2 (zloop (fX2_merge_L19 (nI u) u) zF (1, fhv H A o, wi c 17 u 0 (nI u))) (zloop (fX10_laysLine_L157 (nI u) (nI p)) zF (1, wi r 45 0 (12 * u) (nI u))) (fun e e' => ∃ i H V cm rm, LnI u p i E H A V c r cm rm ∧ IsF (FHk (p + 1) E H A) (p + 1) none ∧ e = Sum.inl (nI i, cm) ∧ ((IsF (fun k => H k < E k) (p + 1) none ∧ e' = Sum.inl (nI i, rm)) ∨ ∃ k0 r', IsF (fun k => H k < E k) (p + 1) (some k0) ∧ e' = Sum.inr r' ∧ fX10_laysRing (nI u) (nI (p + 1)) rm = some r')) := by
  refine ok2_loop (I := fun n s t => ∃ i H V o, n = 13 - i ∧ LnI u p i E H A V c r s.2.2 t.2 ∧ IsF (FHk (p + 1) E H A) (p + 1) o ∧ s.1 = nI i ∧ s.2.1 = fhv H A o ∧ t.1 = nI i) (fun n s t hI => ?_) zF zF 12 _ _ ⟨1, H, fun _ => u, o, by omega, ⟨by omega, by omega, hP, CRw_fs hC (FS_wa (ks := [17]) (by decide) (by decide) (FS_refl c)) (by decide), RRw_fs hR (FS_wa (ks := [45]) (by decide) (by decide) (FS_refl r)) (by decide), rfl, fun j h1 h2 => by omega, fun a b h1 h2 h3 => by omega, fun j hj => ?_, fun v s hv => ?_, fun s hs => ?_, FS_wa (by decide) (by decide) (FS_refl c), FS_wa (by decide) (by decide) (FS_refl r)⟩, ho, rfl, rfl, rfl⟩ (by unfold zF; omega) (by unfold zF; omega)
  rotate_left
  · rw [show j = 0 by omega]
    dsimp only
    rw [gi_wi, if_pos ⟨rfl, rfl, rfl⟩, gi_wi, if_pos ⟨rfl, rfl, rfl⟩]
    exact ⟨rfl, rfl⟩
  · dsimp only
    rw [gi_wi, if_neg (by omega)]
  · dsimp only
    rw [gi_wi, if_neg (by omega)]
  obtain ⟨s1, s2, cm⟩ := s
  obtain ⟨t1, rm⟩ := t
  obtain ⟨i, H, V, o, hn, hL, ho, e1, e2, e3⟩ := hI
  dsimp only at hL e1 e2 e3
  subst e1; subst e2; subst e3
  obtain ⟨i1, i12, hP, hC, hR, v0, v1, v2, v3, v4, v5, v6, v7⟩ := id hL
  obtain ⟨R5, u12, hP'⟩ := id hP
  unfold fX2_merge_L19 fX10_laysLine_L157
  dsimp only
  obtain ⟨o', ho'⟩ := IsF_ex (fun k => H k < E k) (p + 1)
  rw [nI_1 p, nI_1 i, qIsLeft' hP hR ho', Option.bind_some, qNextHead' hP hR ho, Option.bind_some]
  cases o with
  | none =>
    rw [if_pos (show fhv H A none = -1 from rfl), if_pos (show fhv H A none = -1 from rfl)]
    cases o' with
    | none =>
      rw [if_pos (show lfv none = 0 from rfl)]
      exact ok2_some (Or.inr ⟨_, _, rfl, rfl, i, H, V, cm, rm, hL, ho, rfl, Or.inl ⟨ho', rfl⟩⟩)
    | some k0 =>
      rw [if_neg (show ¬ lfv (some k0) = 0 from n10)]
      obtain ⟨c2, r2, g1, g2, -⟩ := ring hu hP hC hR ho ho'
      rw [g2, Option.bind_some]
      exact ok2_some (Or.inr ⟨_, _, rfl, rfl, i, H, V, cm, rm, hL, ho, rfl, Or.inr ⟨k0, r2, ho', rfl, g2⟩⟩)
  | some k =>
    obtain ⟨k1, ⟨k2, k3⟩, k4⟩ := ho
    have ht := (hP' k k1).2.2 _ k2
    have hne : ∀ j, 1 ≤ j → j < i → V j ≠ A k (H k) := fun j h1 h2 q => (v1 j h1 h2).2 k k1 (H k) (by omega) k2 q.symm
    have iu : i ≤ u := pig u i (fun j => if j + 1 < i then V (j + 1) else A k (H k)) (fun j hj => by
      by_cases q : j + 1 < i
      · rw [if_pos q]; exact (v1 (j + 1) (by omega) q).1
      · rw [if_neg q]; exact ht) (fun a b hab hb => by
      rw [if_pos (by omega)]
      by_cases q : b + 1 < i
      · rw [if_pos q]; exact v2 (a + 1) (b + 1) (by omega) (by omega) q
      · rw [if_neg q]; exact hne (a + 1) (by omega) (by omega))
    have hL1 : ∃ k', o' = some k' := by
      cases o' with
      | none => exact absurd k2 (ho' k k1)
      | some k' => exact ⟨k', rfl⟩
    obtain ⟨k', rfl⟩ := hL1
    rw [show fhv H A (some k) = nI (A k (H k)) from rfl, if_neg (nIm1 (by omega)), if_neg (nIm1 (by omega)), if_neg (show ¬ lfv (some k') = 0 from n10), l12]
    refine ok2_fl (fun q => by have := (nIle (by omega) (by omega)).mp q; omega) ?_
    rw [zo _ (by omega) (by omega), zn_n (by omega), pk_mul, nI_add, zo _ (by omega) (by omega), zn_n (by omega)]
    have hC' : CRw (p + 1) E H A (wi cm 17 u i (nI (A k (H k)))) := CRw_fs hC (FS_wa (ks := [17]) (by decide) (by decide) (FS_refl cm)) (by decide)
    have hR' : RRw (p + 1) E H A (wi rm 45 0 (12 * u + i) (nI (A k (H k)))) := RRw_fs hR (FS_wa (ks := [45]) (by decide) (by decide) (FS_refl rm)) (by decide)
    refine ok2_l (pX2_dropHead hP hC' (by omega)) (fun c2 hc2 => ?_)
    refine ok2_r (qDrop hP hR' (by omega)) (fun e he => ?_)
    obtain ⟨r2, rfl, hr2, hf2⟩ := he
    obtain ⟨o2, ho2⟩ := IsF_ex (FHk (p + 1) E (dH E H A (A k (H k))) A) (p + 1)
    rw [pX2_freeHead' (PRw_drop hP _) hc2.1 ho2, Option.bind_some]
    refine ok2_some (Or.inl ⟨_, _, 13 - (i + 1), rfl, rfl, by omega, i + 1, dH E H A (A k (H k)), up V i (A k (H k)), o2, rfl, ⟨by omega, by omega, PRw_drop hP _, hc2.1, hr2, ?_, fun j h1 h2 => ?_, fun a b h1 h2 h3 => ?_, fun j hj => ?_, fun v s hv => ?_, fun s hs => ?_, ?_, ?_⟩, ho2, rfl, rfl, rfl⟩)
    · rw [up_n (by omega)]; exact v0
    · by_cases q : j = i
      · rw [up_e q]; exact ⟨ht, Rem_new k3⟩
      · rw [up_n q]; exact ⟨(v1 j h1 (by omega)).1, Rem_drop (v1 j h1 (by omega)).2⟩
    · rw [up_n (show a ≠ i by omega)]
      by_cases q : b = i
      · rw [up_e q]; exact hne a h1 (by omega)
      · rw [up_n q]; exact v2 a b h1 h2 (by omega)
    · dsimp only
      rw [FSa hc2.2 _ _ (by decide) (by decide), gi_wi, FSa hf2 _ _ (by decide) (by decide), gi_wi]
      by_cases q : j = i
      · rw [if_pos ⟨rfl, rfl, q⟩, if_pos ⟨rfl, rfl, by rw [q]⟩, up_e q]
        exact ⟨rfl, rfl⟩
      · rw [if_neg (by omega), if_neg (by omega), up_n q]; exact v3 j (by omega)
    · dsimp only
      rw [FSa hc2.2 _ _ (by decide) (by decide), gi_wi, if_neg (by omega)]; exact v4 v s hv
    · dsimp only
      rw [FSa hf2 _ _ (by decide) (by decide), gi_wi, if_neg (by omega)]; exact v5 s hs
    · exact FS_tr (FS_wa (by decide) (by decide) v6) (FS_mono (zss (by decide)) hc2.2)
    · exact FS_tr (FS_wa (by decide) (by decide) v7) (FS_mono (zss (by decide)) hf2)
theorem merge {u p : Nat} {E H : Nat → Nat} {A : Nat → Nat → Nat} {c r : zM} (hu : u < 12) (hP : PRw u (p + 1) E H A) (hC : CRw (p + 1) E H A c) (hR : RRw (p + 1) E H A r) (c18 : gi c 18 0 u = nI 0) (c21 : gi c 21 0 u = nI 0) (r46 : gi r 46 0 u = nI 0) (r48 : gi r 48 0 u = nI 0) : ok2 (fX2_merge (nI u) c) ((zloop (fX10_laysLine_L157 (nI u) (nI p)) zF (1, wi r 45 0 (12 * u) (nI u))).bind (fun o18 => zcase o18 (fun y16 => zob (zin (nI u) 12) (some (wi y16.2 46 0 (zn (nI u)) y16.1))) (fun r17 => some r17))) (fun c' r' => (RLj c' r' u ∧ LUo u c c' r r') ∧ FS [17, 18, 20, 21, 25, 27] c c' ∧ FS [45, 46, 47, 48, 51] r r') := by
  obtain ⟨o, ho⟩ := IsF_ex (FHk (p + 1) E H A) (p + 1)
  unfold fX2_merge
  rw [zo _ (by omega) (by omega), zn_n (by omega), zn0, pX2_freeHead' hP (CRw_fs hC (FS_wa (ks := [17]) (by decide) (by decide) (FS_refl c)) (by decide)) ho, Option.bind_some]
  refine ok2_bind (merge_loop hu hP hC hR ho) (fun e e' he => ?_)
  obtain ⟨i, H, V, cm, rm, ⟨i1, i12, hP, hC, hR, v0, v1, v2, v3, v4, v5, v6, v7⟩, hN, rfl, he⟩ := he
  obtain ⟨R5, u12, hP'⟩ := id hP
  have vu : ∀ j, j < i → V j ≤ u := fun j hj => by
    by_cases q : j = 0
    · rw [q, v0]; omega
    · have := (v1 j (by omega) hj).1
      omega
  rcases he with ⟨ho', rfl⟩ | ⟨k0, r', ho', rfl, hr⟩
  · show ok2 ((fX2_firstRowLeft cm).bind _) (zob (zin (nI u) 12) (some (wi rm 46 0 u (nI i)))) _
    rw [pX2_firstRowLeft hP hC ho', Option.bind_some, if_pos (show zfx none = -1 from rfl), zo _ (by omega) (by omega), zo _ (by omega) (by omega)]
    refine ok2_some ⟨⟨⟨i, 0, by omega, by omega, ?_, ?_, fun j hj => ⟨V j, vu j hj, ?_, ?_⟩, ?_, ?_, fun j hj => by omega⟩, fun v hv => ⟨?_, ?_, fun s => ?_, fun s => ?_⟩, fun v hv => ⟨?_, ?_⟩, fun s hs => ⟨?_, ?_⟩⟩, FS_wa (by decide) (by decide) (FS_mono (zss (by decide)) v6), FS_wa (by decide) (by decide) (FS_mono (zss (by decide)) v7)⟩
    · rw [gi_wi, if_pos ⟨rfl, rfl, rfl⟩]
    · rw [gi_wi, if_pos ⟨rfl, rfl, rfl⟩]
    · rw [gi_wi, if_neg (by omega)]; exact (v3 j hj).1
    · rw [gi_wi, if_neg (by omega)]; exact (v3 j hj).2
    · rw [gi_wi, if_neg (by omega), FSa v6 _ _ (by decide) (by decide)]; exact c21
    · rw [gi_wi, if_neg (by omega), FSa v7 _ _ (by decide) (by decide)]; exact r48
    · rw [gi_wi, if_neg (by omega), FSa v6 _ _ (by decide) (by decide)]
    · rw [gi_wi, if_neg (by omega), FSa v6 _ _ (by decide) (by decide)]
    · rw [gi_wi, if_neg (by omega)]; exact v4 v s hv
    · rw [gi_wi, if_neg (by omega), FSa v6 _ _ (by decide) (by decide)]
    · rw [gi_wi, if_neg (by omega), FSa v7 _ _ (by decide) (by decide)]
    · rw [gi_wi, if_neg (by omega), FSa v7 _ _ (by decide) (by decide)]
    · rw [gi_wi, if_neg (by omega)]; exact v5 s hs
    · rw [gi_wi, if_neg (by omega), FSa v7 _ _ (by decide) (by decide)]
  · have k01 := ho'.1
    obtain ⟨p1, p2, p3⟩ := hP' k0 k01
    obtain ⟨q1, q2, q3⟩ := hC.2 k0 k01
    have hlt : H k0 < E k0 := ho'.2.1
    show ok2 ((fX2_firstRowLeft cm).bind _) (some r') _
    rw [pX2_firstRowLeft hP hC ho', Option.bind_some, if_neg (zfx_some (by omega)), show zfx (some k0) = nI k0 from rfl, zo _ (by omega) (by omega), zo _ (by omega) (by omega), zn_n (by omega), q2, zo _ (by omega) (by omega), zn_n (by omega), q3 _ hlt]
    obtain ⟨c2, r2, g1, g2, ⟨⟨K, K12, a1, a2, a3⟩, a4, a5, a6, a7⟩, f1, f2⟩ := ring hu hP hC hR hN ho'
    have er : r2 = r' := Option.some.inj (g2.symm.trans hr)
    subst er
    show ok2 ((fX2_ringFrom (nI u) (nI (A k0 (H k0))) cm).bind _) _ _
    rw [g1, Option.bind_some]
    refine ok2_some ⟨⟨⟨0, K, by omega, K12, ?_, ?_, fun j hj => by omega, a1, a2, a3⟩, fun v hv => ⟨?_, ?_, fun s => ?_, fun s => ?_⟩, fun v hv => ⟨?_, ?_⟩, fun s hs => ⟨?_, ?_⟩⟩, FS_tr (FS_mono (zss (by decide)) v6) (FS_mono (zss (by decide)) f1), FS_tr (FS_mono (zss (by decide)) v7) (FS_mono (zss (by decide)) f2)⟩
    · rw [FSa f1 _ _ (by decide) (by decide), FSa v6 _ _ (by decide) (by decide)]; exact c18
    · rw [FSa f2 _ _ (by decide) (by decide), FSa v7 _ _ (by decide) (by decide)]; exact r46
    · rw [FSa f1 _ _ (by decide) (by decide), FSa v6 _ _ (by decide) (by decide)]
    · rw [a5 v hv, FSa v6 _ _ (by decide) (by decide)]
    · rw [FSa f1 _ _ (by decide) (by decide)]; exact v4 v s hv
    · rw [a4 v s hv, FSa v6 _ _ (by decide) (by decide)]
    · rw [FSa f2 _ _ (by decide) (by decide), FSa v7 _ _ (by decide) (by decide)]
    · rw [a7 v hv, FSa v7 _ _ (by decide) (by decide)]
    · rw [FSa f2 _ _ (by decide) (by decide)]; exact v5 s hs
    · rw [a6 s hs, FSa v7 _ _ (by decide) (by decide)]
