/-! a name in a row, on both sides -/
section LX
variable {t : Nat} {T : Nat → Nat}
theorem DU_kd {d n u : Nat} {c r : zM} (h : DU d n c r) (hu : u < n) : gi c 7 (12 * d + u) 0 = gi r 39 0 (113 * u) ∧ (gi r 39 0 (113 * u) = 0 ∨ gi r 39 0 (113 * u) = 1) ∧ gi c 7 (12 * d + u) 1 = gi r 39 0 (113 * u + 1) := by
  have hu' := (h.2.2.2.2.2 u (by omega)).1.1
  obtain ⟨a1, a2, a3, a4⟩ := hu'
  dsimp only at a1 a2 a3 a4
  rw [rR_0 (by omega), Nat.add_zero] at a1 a2
  rw [rR_0 (by omega)] at a4
  rw [uC_7 (by omega)] at a2 a4
  obtain ⟨x, x1, x2, x3⟩ := zin_e a1
  refine ⟨a2, ?_, a4⟩
  rw [x2]
  rcases Nat.lt_or_ge x 1 with w | w
  · left; rw [show x = 0 by omega]; rfl
  · right; rw [show x = 1 by omega]; rfl
theorem idx2 {d n : Nat} {c r : zM} (h : DU d n c r) (x : Int32) : ∃ o, fX8_indexOf d x c = some (zfx o) ∧ fX10_unitOf x r = some (zfx o) ∧ ∀ u, o = some u → u < n := by
  have h12 := h.2.2.2.1
  refine ⟨zfd (fun u => gi r 39 0 (113 * u + 1)) x n, ?_, qUnitOf h.2.2.1 (by omega), fun u hu => (zfd_some hu).1⟩
  rw [pX8_indexOf h.2.1 (by omega)]
  congr 2
  exact zfd_cg (fun u hu => (DU_kd h hu).2.2)
theorem n143 {p : Nat} {v : Int32} {r : zM} (h : gi r 10 0 8 = nI p) : fX10_named_J143 v r = some (v, wi r 10 0 8 (nI (p + 1))) := by
  unfold fX10_named_J143
  rw [h, nI_1]
theorem w143 (hB : TB t T) {p : Nat} {F : Int32} {r : zM} (h : WR t T F r) (h8 : gi r 10 0 8 = nI p) (hp : p < t) : WR t T F (wi r 10 0 8 (nI (p + 1))) := by
  obtain ⟨a1, a2, a3, a4⟩ := h
  have f := FS_wf (v := nI (p + 1)) (k := 10) (s := 8) (i := 0) (ks := [2008]) (by decide) (by decide) (FS_refl r)
  exact ⟨TR_fs a1 f (by decide), by rw [gi_wi, if_neg (by omega)]; exact a2, a3, p + 1, by rw [gi_wi, if_pos ⟨rfl, rfl, rfl⟩], by omega⟩
theorem named2 {d n p q κ base st k W : Nat} {c r : zM} (hB : TB t T) (h : LC t T p q c) (hR : LR t T p r) (hU : DU d n c r) (hcap : 65 ≤ sg t T p ∧ sg t T p ≤ 90) (hκ : κ ≤ 1) (k4 : k ≤ 4) (hk : gi c 5 W 1 = nI k) (hrow : ∀ j, j < k → gi c 30 W j = gi r 39 0 (base + st * j)) (hb : base + st * 3 < 1357) : ok2 (fX4_readOfRow W (nI κ) c) (fX10_named (nI κ) (nI base) (nI st) (nI k) r) (fun a b => FS [1402, 1403, 1404, 1405, 1406] c a.2 ∧ FS [2008, 2009, 2010, 2011] r b.2 ∧ ((∃ u, u < n ∧ a.1 = nI u ∧ b.1 = nI u ∧ gi r 39 0 (113 * u) = nI κ ∧ k < 4 ∧ AR t T q b.2 ∧ ∃ p' q', En (sp t T) q p' ∧ LC t T p' q' a.2) ∨ (a.1 = -1 ∧ ∃ F, gi a.2 4 0 5 = F ∧ F ≠ 0 ∧ WR t T F b.2))) := by
  have ht := hB.1
  have hK := h.2.1
  have hp := hK.1
  have hn := hU.2.2.2.1
  obtain ⟨w1, w2⟩ := sg_1 hK (v := sg t T p) rfl (by omega) (by omega) (by omega)
  unfold fX4_readOfRow fX10_named
  rw [hU.1, Option.bind_some, (cName hB h).1 hcap, Option.bind_some]
  have h9 : gi r 10 0 9 = -1 := by obtain ⟨a, a1, -⟩ := hR; exact a1.2.1
  rw [qRight h9, Option.bind_some, if_neg n10]
  refine ok2_r (rCap hB hR hp) (fun b hb => ?_)
  obtain ⟨b1, -, b3, b4⟩ := hb
  have hUb : DU d n c b.2 := DU_fs hU (FS_refl c) (lxr b4 (by decide))
  rw [b1 hcap, if_neg n10, qSign hB b3.1 b3.2.2 hp, Option.bind_some, (Rs_v _ (sg_lt hB p) (sg t T p) (by omega)).mpr rfl, show (65 : Int32) = nI 65 from rfl, pk_sub hcap.1]
  obtain ⟨o, o1, o2, o3⟩ := idx2 hUb (nI (sg t T p - 65))
  rw [o1, o2, Option.bind_some, Option.bind_some]
  have e39 : ∀ s, gi b.2 39 0 s = gi r 39 0 s := fun s => FSa b4 0 s (by decide) (by decide)
  have fb : FS [2008, 2009, 2010, 2011] r b.2 := lxr b4 (by decide)
  -- the bad end: fault 2
  have bad : ∀ v : Int32, ok2 ((fX4_refuse 2 c).bind (fun x6 => some ((-1 : Int32), x6.2))) (fX10_named_J64 (nI base) (nI st) (nI k) v b.2) (fun a b => FS [1402, 1403, 1404, 1405, 1406] c a.2 ∧ FS [2008, 2009, 2010, 2011] r b.2 ∧ ((∃ u, u < n ∧ a.1 = nI u ∧ b.1 = nI u ∧ gi r 39 0 (113 * u) = nI κ ∧ k < 4 ∧ AR t T q b.2 ∧ ∃ p' q', En (sp t T) q p' ∧ LC t T p' q' a.2) ∨ (a.1 = -1 ∧ ∃ F, gi a.2 4 0 5 = F ∧ F ≠ 0 ∧ WR t T F b.2))) := fun v => by
    unfold fX10_named_J64 fX10_named_J65
    have lp : zloop (fX10_named_L70 (nI base) (nI st) (nI k) v b.2) zF (0, 0) = some (Sum.inl 0) := by
      refine zloop_e ?_
      unfold fX10_named_L70
      by_cases y : nI k ≤ 0
      · rw [if_pos y]
      · rw [if_neg y, if_pos rfl]
    rw [lp, Option.bind_some, show (2 : Int32) = nI 2 from rfl, cRef h, Option.bind_some]
    show ok2 _ (if (0 : Int32) = 0 then (fX10_fails (nI 2) (gi b.2 10 0 8) b.2).bind (fun x9 => fX10_named_J143 v x9) else if nI k = 4 then (fX10_fails 3 (gi b.2 10 0 8) b.2).bind (fun x8 => fX10_named_J143 v x8) else fX10_named_J143 v b.2) _
    have hW : WR t T (FL p 2) (wi b.2 10 0 9 (FL p 2)) := WR_of hB b3.1 b3.2.2 hp hp (by omega)
    have h8 : gi (wi b.2 10 0 9 (FL p 2)) 10 0 8 = nI p := by rw [gi_wi, if_neg (by omega)]; exact b3.2.2
    rw [if_pos rfl, b3.2.2, qFail b3.2.1, Option.bind_some, n143 h8]
    exact ok2_some ⟨fRef.1, FS_wf (by decide) (by decide) (FS_wf (by decide) (by decide) fb), Or.inr ⟨rfl, _, fRef.2, FL_0 hB hp (by omega) (by omega), w143 hB hW h8 w2⟩⟩
  -- the row
  have row : ∀ u, u < n → gi r 39 0 (113 * u) = nI κ → ok2 (fX4_readOfRow_J35 W (nI u) 1 c) (fX10_named_J65 (nI base) (nI st) (nI k) (nI u) 1 b.2) (fun a b => FS [1402, 1403, 1404, 1405, 1406] c a.2 ∧ FS [2008, 2009, 2010, 2011] r b.2 ∧ ((∃ u, u < n ∧ a.1 = nI u ∧ b.1 = nI u ∧ gi r 39 0 (113 * u) = nI κ ∧ k < 4 ∧ AR t T q b.2 ∧ ∃ p' q', En (sp t T) q p' ∧ LC t T p' q' a.2) ∨ (a.1 = -1 ∧ ∃ F, gi a.2 4 0 5 = F ∧ F ≠ 0 ∧ WR t T F b.2))) := fun u hu ek => by
    unfold fX4_readOfRow_J35 fX10_named_J65
    rw [if_neg n10, pX5_placeOf hk k4, Option.bind_some]
    have ez : zfd (fun j => gi c 30 W j) (nI u) k = zfd (fun j => gi b.2 39 0 (base + st * j)) (nI u) k := zfd_cg (fun j hj => by rw [hrow j hj, e39])
    rw [ez]
    have lp : ok (zloop (fX10_named_L70 (nI base) (nI st) (nI k) (nI u) b.2) zF (1, 0)) (fun o => (o = Sum.inl 1 ∧ zfd (fun j => gi b.2 39 0 (base + st * j)) (nI u) k = none) ∨ (o = Sum.inl 0 ∧ ∃ j, zfd (fun j => gi b.2 39 0 (base + st * j)) (nI u) k = some j)) := by
      have bnd : ∀ j, j < k → base + st * j < 1357 := fun j hj => by
        have := Nat.mul_le_mul_left st (show j ≤ 3 by omega)
        omega
      rcases hq : zfd (fun j => gi b.2 39 0 (base + st * j)) (nI u) k with _ | j0
      · have no := zfd_none hq
        refine ok_for (fun j s => s = (1, nI j)) (a := 0) (b := k) (by omega) (by unfold zF; omega) rfl (fun j s _ hj hI => ?_) (fun s hI => ?_)
        · subst hI
          have := bnd j hj
          unfold fX10_named_L70
          dsimp only
          rw [if_neg (fun q => by have := (nIle (by omega) (by omega)).mp q; omega), if_neg n10, pk_mul, nI_add, zo _ this (by omega), zn_n (by omega), if_neg (no j hj), nI_1]
          exact ok_some (Or.inl ⟨_, rfl, rfl⟩)
        · subst hI
          unfold fX10_named_L70
          dsimp only
          rw [if_pos (Int32.le_refl _)]
          exact ok_some ⟨_, rfl, Or.inl ⟨rfl, rfl⟩⟩
      · obtain ⟨i1, i2, i3⟩ := zfd_some hq
        refine ok_for (fun j s => (j ≤ j0 ∧ s = (1, nI j)) ∨ (j = j0 + 1 ∧ s = (0, nI j))) (a := 0) (b := j0 + 1) (by omega) (by unfold zF; omega) (Or.inl ⟨by omega, rfl⟩) (fun j s _ hj hI => ?_) (fun s hI => ?_)
        · rcases hI with ⟨hj2, rfl⟩ | ⟨hj2, -⟩
          · have := bnd j (by omega)
            unfold fX10_named_L70
            dsimp only
            rw [if_neg (fun q => by have := (nIle (by omega) (by omega)).mp q; omega), if_neg n10, pk_mul, nI_add, zo _ this (by omega), zn_n (by omega), nI_1]
            by_cases e : j = j0
            · subst e
              rw [if_pos i2]
              exact ok_some (Or.inl ⟨_, rfl, Or.inr ⟨rfl, rfl⟩⟩)
            · rw [if_neg (i3 j (by omega))]
              exact ok_some (Or.inl ⟨_, rfl, Or.inl ⟨by omega, rfl⟩⟩)
          · omega
        · rcases hI with ⟨hj2, -⟩ | ⟨-, rfl⟩
          · omega
          · unfold fX10_named_L70
            dsimp only
            refine ok_if (fun _ => ok_some ⟨_, rfl, Or.inr ⟨rfl, _, rfl⟩⟩) (fun _ => ?_)
            rw [if_pos rfl]
            exact ok_some ⟨_, rfl, Or.inr ⟨rfl, _, rfl⟩⟩
    obtain ⟨o, eo, ⟨rfl, hz⟩ | ⟨rfl, j, hz⟩⟩ := lp
    · rw [eo, Option.bind_some, hz, if_pos (show zfx none = -1 from rfl), hk]
      show ok2 _ (if (1 : Int32) = 0 then (fX10_fails 2 (gi b.2 10 0 8) b.2).bind (fun x9 => fX10_named_J143 (nI u) x9) else if nI k = 4 then (fX10_fails 3 (gi b.2 10 0 8) b.2).bind (fun x8 => fX10_named_J143 (nI u) x8) else fX10_named_J143 (nI u) b.2) _
      rw [if_neg n10]
      by_cases k4' : k = 4
      · subst k4'
        have hW : WR t T (FL p 3) (wi b.2 10 0 9 (FL p 3)) := WR_of hB b3.1 b3.2.2 hp hp (by omega)
        have h8 : gi (wi b.2 10 0 9 (FL p 3)) 10 0 8 = nI p := by rw [gi_wi, if_neg (by omega)]; exact b3.2.2
        rw [if_neg (show ¬ nI 4 < 4 from fun q => Int32.lt_irrefl q), if_pos (show nI 4 = 4 from rfl), show (3 : Int32) = nI 3 from rfl, cRef h, Option.bind_some, b3.2.2, qFail b3.2.1, Option.bind_some, n143 h8]
        exact ok2_some ⟨fRef.1, FS_wf (by decide) (by decide) (FS_wf (by decide) (by decide) fb), Or.inr ⟨rfl, _, fRef.2, FL_0 hB hp (by omega) (by omega), w143 hB hW h8 w2⟩⟩
      · rw [if_pos (n4 (by omega)), if_neg (show ¬ nI k = 4 from fun q => k4' ((nIeq (b := 4) (by omega) (by omega)).mp q)), n143 b3.2.2]
        refine ok2_l (pass_LC hB h) (fun c4 h4 => ?_)
        obtain ⟨p', q', e1, e2, e3⟩ := h4
        have f2 := FS_wf (v := nI (p + 1)) (k := 10) (s := 8) (i := 0) (ks := [2008]) (by decide) (by decide) b4
        exact ok2_some ⟨lxc e3 (by decide), lxr f2 (by decide), Or.inl ⟨u, hu, rfl, rfl, ek, by omega, ⟨TR_fs b3.1 (FS_wf (v := nI (p + 1)) (k := 10) (s := 8) (i := 0) (ks := [2008]) (by decide) (by decide) (FS_refl b.2)) (by decide), by rw [gi_wi, if_neg (by omega)]; exact b3.2.1, by rw [gi_wi, if_pos ⟨rfl, rfl, rfl⟩, w1]⟩, p', q', e1, e2⟩⟩
    · have hj := (zfd_some hz).1
      rw [eo, Option.bind_some, hz, if_neg (show ¬ zfx (some j) = -1 from nIm1 (by omega))]
      unfold fX4_readOfRow_J51
      rw [show (2 : Int32) = nI 2 from rfl, cRef h, Option.bind_some]
      show ok2 _ (if (0 : Int32) = 0 then (fX10_fails (nI 2) (gi b.2 10 0 8) b.2).bind (fun x9 => fX10_named_J143 (nI u) x9) else if nI k = 4 then (fX10_fails 3 (gi b.2 10 0 8) b.2).bind (fun x8 => fX10_named_J143 (nI u) x8) else fX10_named_J143 (nI u) b.2) _
      have hW : WR t T (FL p 2) (wi b.2 10 0 9 (FL p 2)) := WR_of hB b3.1 b3.2.2 hp hp (by omega)
      have h8 : gi (wi b.2 10 0 9 (FL p 2)) 10 0 8 = nI p := by rw [gi_wi, if_neg (by omega)]; exact b3.2.2
      rw [if_pos rfl, b3.2.2, qFail b3.2.1, Option.bind_some, n143 h8]
      exact ok2_some ⟨fRef.1, FS_wf (by decide) (by decide) (FS_wf (by decide) (by decide) fb), Or.inr ⟨rfl, _, fRef.2, FL_0 hB hp (by omega) (by omega), w143 hB hW h8 w2⟩⟩
  have J35 : ∀ x : Int32, fX4_readOfRow_J35 W x 0 c = (fX4_refuse 2 c).bind (fun x6 => some ((-1 : Int32), x6.2)) := fun x => by
    unfold fX4_readOfRow_J35 fX4_readOfRow_J51
    rw [if_pos rfl]
  have key : ∀ z : Int32, (z = 1 ∨ z = 0) → (z = 1 ↔ ∃ u, o = some u ∧ gi r 39 0 (113 * u) = nI κ) → ok2 (fX4_readOfRow_J35 W (zfx o) z c) (if zfx o = -1 then fX10_named_J64 (nI base) (nI st) (nI k) (zfx o) b.2 else zob (zin ((113 * zfx o) + 0) 1357) (if gi b.2 39 0 (zn ((113 * zfx o) + 0)) = nI κ then fX10_named_J65 (nI base) (nI st) (nI k) (zfx o) 1 b.2 else fX10_named_J64 (nI base) (nI st) (nI k) (zfx o) b.2)) (fun a b => FS [1402, 1403, 1404, 1405, 1406] c a.2 ∧ FS [2008, 2009, 2010, 2011] r b.2 ∧ ((∃ u, u < n ∧ a.1 = nI u ∧ b.1 = nI u ∧ gi r 39 0 (113 * u) = nI κ ∧ k < 4 ∧ AR t T q b.2 ∧ ∃ p' q', En (sp t T) q p' ∧ LC t T p' q' a.2) ∨ (a.1 = -1 ∧ ∃ F, gi a.2 4 0 5 = F ∧ F ≠ 0 ∧ WR t T F b.2))) := fun z hz hzi => by
    rcases o with _ | u
    · have z0 : z = 0 := by
        rcases hz with w | w
        · obtain ⟨u, q, -⟩ := hzi.mp w; cases q
        · exact w
      rw [z0, if_pos (show zfx none = -1 from rfl), J35]
      exact bad _
    · have hu := o3 u rfl
      rw [if_neg (show ¬ zfx (some u) = -1 from nIm1 (by omega))]
      show ok2 (fX4_readOfRow_J35 W (nI u) z c) (zob (zin ((113 * nI u) + 0) 1357) (if gi b.2 39 0 (zn ((113 * nI u) + 0)) = nI κ then fX10_named_J65 (nI base) (nI st) (nI k) (nI u) 1 b.2 else fX10_named_J64 (nI base) (nI st) (nI k) (nI u) b.2)) _
      rw [l113, pk_mul, Int32.add_zero, zo _ (by omega) (by omega), zn_n (by omega), e39]
      by_cases e : gi r 39 0 (113 * u) = nI κ
      · rw [if_pos e, hzi.mpr ⟨u, rfl, e⟩]
        exact row u hu e
      · have z0 : z = 0 := by
          rcases hz with w | w
          · obtain ⟨u', q, q'⟩ := hzi.mp w
            cases q
            exact absurd q' e
          · exact w
        rw [if_neg e, z0, J35]
        exact bad _
  have kd : ∀ u, o = some u → (zin (zfx o) n = true ∧ gi c 7 (12 * d + zn (zfx o)) 0 = gi r 39 0 (113 * u) ∧ (gi r 39 0 (113 * u) = 0 ∨ gi r 39 0 (113 * u) = 1)) := fun u hu => by
    have hu' := o3 u hu
    subst hu
    show zin (nI u) n = true ∧ gi c 7 (12 * d + zn (nI u)) 0 = _ ∧ _
    rw [zn_n (by omega)]
    exact ⟨zin_n hu' (by omega), (DU_kd hU hu').1, (DU_kd hU hu').2.1⟩
  have nn : o = none → ¬ zin (zfx o) n = true := fun e w => by
    rw [e] at w
    obtain ⟨a, -, q, q2⟩ := zin_e w
    exact m1ne q2 q
  by_cases e : κ = 0
  · subst e
    rw [if_pos (show nI 0 = 0 from rfl), pX8_isType hU.2.1 (by omega), Option.bind_some, Option.bind_some]
    refine key _ (by split <;> simp) ⟨fun w => ?_, fun w => ?_⟩
    · rcases ho : o with _ | u
      · rw [if_neg (fun q => nn ho q.1)] at w
        exact absurd w (by decide)
      · obtain ⟨k1, k2, k3⟩ := kd u ho
        by_cases q : gi r 39 0 (113 * u) = 0
        · exact ⟨u, rfl, q⟩
        · rw [if_neg (fun y => q (by rw [← k2]; exact y.2))] at w
          exact absurd w (by decide)
    · obtain ⟨u, ho, q⟩ := w
      obtain ⟨k1, k2, k3⟩ := kd u ho
      rw [if_pos ⟨k1, by rw [k2]; exact q⟩]
  · have e1 : κ = 1 := by omega
    subst e1
    rw [if_neg (show ¬ nI 1 = 0 from n10), Option.bind_some, pX8_isTrait hU.2.1 (by omega), Option.bind_some, Option.bind_some]
    refine key _ (by split <;> simp) ⟨fun w => ?_, fun w => ?_⟩
    · rcases ho : o with _ | u
      · rw [if_neg (fun q => nn ho q.1)] at w
        exact absurd w (by decide)
      · obtain ⟨k1, k2, k3⟩ := kd u ho
        rcases k3 with q | q
        · rw [if_neg (fun y => y.2 (by rw [k2]; exact q))] at w
          exact absurd w (by decide)
        · exact ⟨u, rfl, q⟩
    · obtain ⟨u, ho, q⟩ := w
      obtain ⟨k1, k2, k3⟩ := kd u ho
      rw [if_pos ⟨k1, by rw [k2, q]; exact n10⟩]
end LX
