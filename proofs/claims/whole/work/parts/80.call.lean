/-! calls: both sides answer alike, and the invariant stays -/
theorem n10 : ¬ (1 : Int32) = 0 := by decide
def CALL (f g : zM → Option (Int32 × zM)) : Prop := ∀ c r, INV c r → ok2 (f c) (g r) (fun a b => a.1 = b.1 ∧ INV a.2 b.2)
def CALLp (f g : zM → Option Int32) : Prop := ∀ c r, INV c r → ok2 (f c) (g r) (fun a b => a = b)
section WL
variable {w d n : Nat} {c r : zM}
theorem WLI.n12 (h : WLI w d n c r) : n ≤ 12 := h.2.2.2.2.2.2.2.1
theorem WLI.ru (h : WLI w d n c r) {u : Nat} (hu : u < n) : RU u (uC c (12 * w + u)) (rR r 38 0 u) := (h.2.2.2.2.2.2.2.2 u hu).1
theorem WLI.kd (h : WLI w d n c r) {u : Nat} (hu : u < n) : gi c 7 (12 * w + u) 0 = gi r 38 0 (113 * u) ∧ (gi r 38 0 (113 * u) = 0 ∨ gi r 38 0 (113 * u) = 1) := by
  have h1 := (h.ru hu).1
  have e1 : gi c 7 (12 * w + u) 0 = rR r 38 0 u 0 := h1.2.1
  have e2 : rR r 38 0 u 0 = gi r 38 0 (113 * u) := by rw [rR_0 (by omega)]; rfl
  refine ⟨by rw [e1, e2], ?_⟩
  have h2 := h1.1
  rw [e2] at h2
  obtain ⟨a, ha, e, -⟩ := zin_e h2
  rw [e]
  match a, ha with
  | 0, _ => exact Or.inl rfl
  | 1, _ => exact Or.inr rfl
theorem WLI.cTy (h : WLI w d n c r) (v : Int32) : fX8_isType w v c = some (if zin v n = true ∧ gi r 38 0 (113 * zn v) = 0 then 1 else 0) := by
  rw [pX8_isType h.2.2.2.2.2.1 h.n12]
  by_cases q : zin v n = true
  · rw [(h.kd (zin_z q).2.1).1]
  · rw [if_neg (fun z => q z.1), if_neg (fun z => q z.1)]
theorem WLI.rTy (h : WLI w d n c r) (v : Int32) : fX10_isType v r = some (if zin v n = true ∧ gi r 38 0 (113 * zn v) = 0 then 1 else 0) := by
  rw [qIsType h.2.2.2.2.2.2.1 h.n12]
  by_cases q : zin v n = true
  · rcases (h.kd (zin_z q).2.1).2 with e | e
    · rw [if_pos ⟨q, by rw [e]; decide⟩, if_pos ⟨q, e⟩]
    · rw [if_neg (fun z => z.2 e), if_neg (fun z => by have := z.2; rw [e] at this; revert this; decide)]
  · rw [if_neg (fun z => q z.1), if_neg (fun z => q z.1)]
theorem WLI.cTr (h : WLI w d n c r) (v : Int32) : fX8_isTrait w v c = some (if zin v n = true ∧ gi r 38 0 (113 * zn v) = 1 then 1 else 0) := by
  rw [pX8_isTrait h.2.2.2.2.2.1 h.n12]
  by_cases q : zin v n = true
  · rw [(h.kd (zin_z q).2.1).1]
    rcases (h.kd (zin_z q).2.1).2 with e | e
    · rw [if_neg (fun z => z.2 e), if_neg (fun z => by have := z.2; rw [e] at this; revert this; decide)]
    · rw [if_pos ⟨q, by rw [e]; decide⟩, if_pos ⟨q, e⟩]
  · rw [if_neg (fun z => q z.1), if_neg (fun z => q z.1)]
theorem WLI.cUn (h : WLI w d n c r) (v : Int32) : fX8_isUnit w v c = some (if zin v n = true then 1 else 0) := pX8_isUnit h.2.2.2.2.2.1 h.n12
theorem WLI.rUn (h : WLI w d n c r) (v : Int32) : fX10_isUnit v r = some (if zin v n = true then 1 else 0) := qIsUnit h.2.2.2.2.2.2.1 h.n12
/-- parents of a unit -/
theorem WLI.par (h : WLI w d n c r) {x : Nat} (hx : x < n) : ∃ p, p ≤ 4 ∧ gi c 5 (2 * (12 * w + x)) 1 = nI p ∧ gi r 38 0 (113 * x + 2) = nI p ∧ ∀ k, k < p → gi c 30 (2 * (12 * w + x)) k = gi r 38 0 (113 * x + (3 + k)) ∧ ∃ q, q < x ∧ gi r 38 0 (113 * x + (3 + k)) = nI q ∧ gi r 38 0 (113 * q) = 0 := by
  obtain ⟨h1, h2, h3⟩ := (h.ru hx).2.1
  have hty := (h.2.2.2.2.2.2.2.2 x hx).2.1
  obtain ⟨p, p1, p2, p3⟩ := zin_e h1
  have e2 : rR r 38 0 x 2 = gi r 38 0 (113 * x + 2) := rR_0 (by omega)
  rw [p2, zn_n p3] at h3
  rw [show (fun u => rR r 38 0 u) x 2 = nI p from p2, zn_n p3] at hty
  refine ⟨p, by omega, by rw [← uC_ps, h2]; exact p2, by rw [← e2]; exact p2, fun k hk => ?_⟩
  obtain ⟨a1, a2⟩ := h3 k hk
  have e3 : rR r 38 0 x (3 + k) = gi r 38 0 (113 * x + (3 + k)) := rR_0 (by omega)
  rw [uC_pi (by omega), e3] at a2
  refine ⟨a2, ?_⟩
  rw [e3] at a1
  obtain ⟨q, q1, q2, q3⟩ := zin_e a1
  refine ⟨q, q1, q2, ?_⟩
  have := (hty k hk).1
  have e4 : (fun u => rR r 38 0 u) x (3 + k) = nI q := by show rR r 38 0 x (3 + k) = _; rw [e3]; exact q2
  rw [e4, zn_n q3] at this
  have e5 : rR r 38 0 q 0 = gi r 38 0 (113 * q) := by rw [rR_0 (by omega)]; rfl
  rw [← e5]
  exact this
end WL
theorem zfx_some {k : Nat} (h : k < 2147483648) : ¬ zfx (some k) = -1 := nIm1 h
theorem rR_u0 {m : zM} {u : Nat} : rR m 38 0 u 0 = gi m 38 0 (113 * u) := by rw [rR_0 (by omega)]; rfl
theorem call_join (v1 v2 : Int32) : CALL (fX9_join v1 v2) (fX10_join v1 v2) := fun c r hI => by
  obtain ⟨t, w, d, n, a, b, h, nx, hT, hW, hS, hH, hF⟩ := id hI
  have h12 := hW.n12
  unfold fX9_join fX10_join
  simp only [hW.1, hW.cTy, hW.rTy, Option.bind_some]
  by_cases t1 : zin v1 n = true ∧ gi r 38 0 (113 * zn v1) = 0
  rotate_left
  · rw [if_neg t1]; exact ok2_some ⟨rfl, hI⟩
  rw [if_pos t1, if_neg n10, if_neg n10]
  by_cases t2 : zin v2 n = true ∧ gi r 38 0 (113 * zn v2) = 0
  rotate_left
  · rw [if_neg t2]; exact ok2_some ⟨rfl, hI⟩
  rw [if_pos t2, if_neg n10, if_neg n10]
  refine ok2_if Iff.rfl (fun hlt _ => ?_) (fun _ _ => ok2_some ⟨rfl, hI⟩)
  obtain ⟨x, hx, rfl, hx3⟩ := zin_e t1.1
  obtain ⟨q, hq, rfl, hq3⟩ := zin_e t2.1
  rw [zn_n hq3] at t2
  have hqx : q < x := (nIlt hq3 hx3).mp hlt
  refine ok2_zl (zin_n (by omega) (by omega)) ?_
  rw [zn_n hx3]
  obtain ⟨p, p4, pc, pr, pk⟩ := hW.par hx
  rw [pX5_placeOf pc p4, Option.bind_some, qPlaceOf (by omega) pr p4, Option.bind_some, zfd_cg (g := fun k => gi r 38 0 (113 * x + (3 + k))) (fun k hk => (pk k hk).1)]
  cases hz : zfd (fun k => gi r 38 0 (113 * x + (3 + k))) (nI q) p with
  | some k =>
    have := (zfd_some hz).1
    rw [if_neg (zfx_some (by omega)), if_neg (zfx_some (by omega))]
    exact ok2_some ⟨rfl, hI⟩
  | none =>
    rw [if_pos (show zfx none = -1 from rfl), if_pos (show zfx none = -1 from rfl), pc, qParents (by omega), Option.bind_some, pr, l4]
    by_cases hp : p = 4
    · rw [if_neg (fun z => by have := (nIlt (by omega) (by omega)).mp z; omega), if_pos (by rw [hp])]
      exact ok2_some ⟨rfl, hI⟩
    · rw [if_pos ((nIlt (by omega) (by omega)).mpr (by omega)), if_neg (fun z => hp ((nIeq (by omega) (by omega)).mp z))]
      refine ok2_l (pX9_beginAct (t := t) hW hH hx) (fun c1 hC => ?_)
      refine ok2_r (qKeepsPast hH.2.2.2.1 hH.1) (fun r1 hR => ?_)
      have hu1 : uC c1 (12 * w + x) = uC c (12 * w + x) := by rw [hC.1.1, if_neg (by have := hW.2.2.1; omega)]
      have pc1 : gi c1 5 (2 * (12 * w + x)) 1 = nI p := by rw [← uC_ps, hu1, uC_ps]; exact pc
      have pr1 : gi r1 38 0 (113 * x + 2) = nI p := by rw [FSa hR.2 0 _ (by decide) (by decide)]; exact pr
      have k1 : gi (wi r1 38 0 (113 * x + 2) (nI (p + 1))) 38 0 (113 * x + 2) = nI (p + 1) := by rw [gi_wi, if_pos ⟨rfl, rfl, rfl⟩]
      rw [pX5_add pc1 (by omega), Option.bind_some, l113, pk_mul, l2, nI_add, zn_n (by omega), pr1, nI_1, qParents (by omega), Option.bind_some, k1, nI_add, zn_n (by omega), qParents (by omega), Option.bind_some]
      refine ok2_zr (zin_n (by omega) (by omega)) (ok2_zr (zin_n (by omega) (by omega)) (ok2_zr (zin_n (by omega) (by omega)) (ok2_some ⟨?_, ?_⟩)))
      · show gi (wi (wi c1 30 (2 * (12 * w + x)) p (nI q)) 5 (2 * (12 * w + x)) 1 (nI (p + 1))) 5 (2 * (12 * w + x)) 1 = gi (wi (wi r1 38 0 (113 * x + 2) (nI (p + 1))) 38 0 (113 * x + 2 + (p + 1)) (nI q)) 38 0 (113 * x + 2)
        rw [gi_wi, if_pos ⟨rfl, rfl, rfl⟩, gi_wi, if_neg (by omega), k1]
      · show INV (wi (wi c1 30 (2 * (12 * w + x)) p (nI q)) 5 (2 * (12 * w + x)) 1 (nI (p + 1))) (wi (wi r1 38 0 (113 * x + 2) (nI (p + 1))) 38 0 (113 * x + 2 + (p + 1)) (nI q))
        have er : rR r1 38 0 x = rR r 38 0 x := rR_cg (fun s _ => FSa hR.2 0 _ (by decide) (by decide))
        have e2 : rR (wi (wi r1 38 0 (113 * x + 2) (nI (p + 1))) 38 0 (113 * x + 2 + (p + 1)) (nI q)) 38 0 x = up (up (rR r 38 0 x) 2 (nI (p + 1))) (3 + p) (nI q) := by
          rw [show 113 * x + 2 + (p + 1) = 113 * x + (3 + p) by omega, rR_w0 (by omega), if_pos rfl, rR_w0 (by omega), if_pos rfl, er]
        have e1 : uC (wi (wi c1 30 (2 * (12 * w + x)) p (nI q)) 5 (2 * (12 * w + x)) 1 (nI (p + 1))) (12 * w + x) = up (up (uC c (12 * w + x)) (4 + p) (nI q)) 3 (nI (p + 1)) := by
          rw [uC_wps, if_pos rfl, uC_wpi (by omega), if_pos rfl, hu1]
        have hRU := hW.ru hx
        have er2 : rR r 38 0 x 2 = nI p := by rw [rR_0 (by omega)]; exact pr
        refine INV_act hT hW hS hH hx hC hR (fun z hz => ?_) (FS_wa (by decide) (by decide) (FS_wa (by decide) (by decide) (FS_refl c1))) (fun u hu hne => ?_) (FS_wa (by decide) (by decide) (FS_wa (by decide) (by decide) (FS_refl r1))) ?_ ?_ ?_ ?_ ?_
        · rw [uC_wps, if_neg hz, uC_wpi (by omega), if_neg hz]
        · rw [show 113 * x + 2 + (p + 1) = 113 * x + (3 + p) by omega, rR_w0 (by omega), if_neg hne, rR_w0 (by omega), if_neg hne]
        · rw [gi_wi, if_neg (by omega), gi_wi, if_neg (by omega)]
        · rw [e1, e2]
          refine ⟨⟨?_, ?_, ?_, ?_⟩, ?_, ?_, ?_⟩
          · rw [up_n (by omega), up_n (by omega)]; exact hRU.1.1
          · rw [up_n (by omega), up_n (by omega), up_n (by omega), up_n (by omega)]; exact hRU.1.2.1
          · rw [up_n (by omega), up_n (by omega)]; exact hRU.1.2.2.1
          · rw [up_n (by omega), up_n (by omega), up_n (by omega), up_n (by omega)]; exact hRU.1.2.2.2
          · exact PS_add hRU.2.1 er2 (by omega) hqx (by omega) up_s (by rw [up_n (by omega), up_s]) (by rw [up_n (by omega), up_s]) up_s (fun k hk => by rw [up_n (by omega), up_n (by omega)]) (fun k hk => by rw [up_n (by omega), up_n (by omega)])
          · exact US_cg hRU.2.2.1 (fun s h1 h2 => by rw [up_n (by omega), up_n (by omega)]) (fun s h1 h2 => by rw [up_n (by omega), up_n (by omega)]) (fun s h1 h2 => by rw [up_n (by omega), up_n (by omega)])
          · exact OS_cg hRU.2.2.2 (fun s h1 h2 => by rw [up_n (by omega), up_n (by omega)]) (by rw [up_n (by omega), up_n (by omega)]) (fun s h1 h2 => by rw [up_n (by omega), up_n (by omega)])
        · rw [e2, up_n (by omega), up_n (by omega)]
        · intro k hk
          rw [e2, up_n (by omega), up_s, zn_n (by omega)] at hk
          rw [e2]
          refine ⟨?_, by rw [rR_u0]; have tt := t1.2; rw [zn_n hx3] at tt; exact tt⟩
          by_cases e : k = p
          · rw [e, up_s, zn_n hq3, rR_u0]; exact t2.2
          · rw [up_n (by omega), up_n (by omega)]
            obtain ⟨q', q1, q2, q3⟩ := (pk k (by omega)).2
            rw [show rR r 38 0 x (3 + k) = nI q' by rw [rR_0 (by omega)]; exact q2, zn_n (by omega), rR_u0]
            exact q3
        · intro k hk
          rw [e2, up_n (by omega), up_n (by omega)] at hk
          rw [e2]
          have hk4 := hRU.2.2.1.lt hk
          rw [up_n (by omega), up_n (by omega)]
          exact (hW.2.2.2.2.2.2.2.2 x hx).2.2 k hk
