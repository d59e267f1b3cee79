/-! feed -/
theorem bsh (x : BitVec 32) (n : Nat) (hn : n ≤ 24) : (x >>> n).signExtend 8 = (x.sshiftRight n).signExtend 8 := by
  rw [BitVec.signExtend_eq_setWidth_of_le _ (by omega), BitVec.signExtend_eq_setWidth_of_le _ (by omega)]
  refine BitVec.eq_of_getLsbD_eq (fun i hi => ?_)
  rw [BitVec.getLsbD_setWidth, BitVec.getLsbD_setWidth, BitVec.getLsbD_ushiftRight, BitVec.getLsbD_sshiftRight, if_pos (by omega)]
  have h : ¬ 32 ≤ i := by omega
  simp [h]
def sh8 (i : Nat) : Int32 := if i = 0 then 24 else if i = 1 then 16 else if i = 2 then 8 else if i = 3 then 0 else -8
theorem sh8_p : ∀ i, i < 4 → ¬ sh8 i < 0 ∧ sh8 i + -8 = sh8 (i + 1) := by decide
theorem sh8_b (v : Int32) : ∀ i, i < 4 → (v.toUInt32 >>> ((sh8 i).toUInt32 &&& Int32.toUInt32 31)).toInt32.toInt8 = (v >>> (sh8 i &&& 31)).toInt8
  | 0, _ => Int8.toBitVec_inj.1 (bsh v.toBitVec 24 (by omega))
  | 1, _ => Int8.toBitVec_inj.1 (bsh v.toBitVec 16 (by omega))
  | 2, _ => Int8.toBitVec_inj.1 (bsh v.toBitVec 8 (by omega))
  | 3, _ => Int8.toBitVec_inj.1 (bsh v.toBitVec 0 (by omega))
  | n + 4, h => by omega
theorem byt_b (z : Int8) : byt z.toInt32 := by
  unfold byt
  rw [Int8.toInt8_toInt32]
theorem feed1 {t : Nat} {c r : zM} (v : Int32) (hT : TPI t c r) (h4 : t + 4 ≤ 400) : ok2 (fX9_putBytes v c) (fX10_puts v r) (fun c' r' => TPI (t + 4) c' r' ∧ FS [36, 1901] c c' ∧ FS [43, 2007] r r') := by
  refine ok2_fr ?_ (frX9_putBytes (ks := [36, 1901]) (fun k h => h) (FS_refl c)) (frX10_puts (ks := [43, 2007]) (fun k h => h) (FS_refl r))
  unfold fX9_putBytes fX10_puts
  refine ok2_bind (P := fun o p => ∃ c' r', o = Sum.inl c' ∧ p = Sum.inl r' ∧ TPI (t + 4) c' r') ?_ (fun o p ho => ?_)
  · refine ok2_for (fun i s s' => s.1 = sh8 i ∧ s'.1 = sh8 i ∧ TPI (t + i) s.2 s'.2) (a := 0) (b := 4) (by omega) (by unfold zF; omega) (by unfold zF; omega) ⟨rfl, rfl, hT⟩ (fun i s s' _ hi hI => ?_) (fun s s' hI => ?_)
    · obtain ⟨s1, m⟩ := s
      obtain ⟨s2, m'⟩ := s'
      obtain ⟨h1, h2, h3⟩ := hI
      dsimp only at h1 h2 h3
      subst h1; subst h2
      obtain ⟨p1, p2⟩ := sh8_p i hi
      obtain ⟨q1, q2, q3, q5⟩ := h3
      unfold fX9_putBytes_L3 fX10_puts_L3
      dsimp only
      have k1 : ∀ V, gi (wi m 36 0 (t + i) V) 9 0 1 = nI (t + i) := fun V => by rw [gi_wi, if_neg (by omega)]; exact q2
      have k2 : ∀ V, gi (wi m' 43 0 (t + i) V) 10 0 7 = nI (t + i) := fun V => by rw [gi_wi, if_neg (by omega)]; exact q3
      rw [if_neg p1, if_neg p1, p2, q2, q3, zn_n (by omega), k1, k2, nI_1, sh8_b v i hi, show (400 : Int32) = nI 400 from rfl, if_neg (fun q => by have := (nIle (by omega) (by omega)).mp q; omega), zo _ (by omega) (by omega), zo _ (by omega) (by omega)]
      refine ok2_some (Or.inl ⟨_, _, rfl, rfl, rfl, rfl, by omega, ?_, ?_, fun j hj => ?_⟩)
      · dsimp only
        rw [gi_wi, if_pos ⟨rfl, rfl, rfl⟩]; rfl
      · dsimp only
        rw [gi_wi, if_pos ⟨rfl, rfl, rfl⟩]; rfl
      · dsimp only
        rw [gi_wi, if_neg (by omega), gi_wi, gi_wi, if_neg (show ¬ (43 = 10 ∧ 0 = 0 ∧ j = 7) by omega), gi_wi]
        by_cases z : j = t + i
        · rw [if_pos ⟨rfl, rfl, z⟩, if_pos ⟨rfl, rfl, z⟩]
          exact ⟨rfl, byt_b _⟩
        · rw [if_neg (fun q => z q.2.2), if_neg (fun q => z q.2.2)]
          exact q5 j hj
    · obtain ⟨s1, m⟩ := s
      obtain ⟨s2, m'⟩ := s'
      obtain ⟨h1, h2, h3⟩ := hI
      dsimp only at h1 h2 h3
      subst h1; subst h2
      unfold fX9_putBytes_L3 fX10_puts_L3
      dsimp only
      rw [if_pos (show sh8 4 < 0 by decide), if_pos (show sh8 4 < 0 by decide)]
      exact ok2_some ⟨_, _, rfl, rfl, m, m', rfl, rfl, h3⟩
  · obtain ⟨c', r', rfl, rfl, h⟩ := ho
    exact ok2_some h
theorem call_feed (v1 v2 v3 v4 v5 : Int32) : CALL (fX9_feed v1 v2 v3 v4 v5) (fX10_feed v1 v2 v3 v4 v5) := fun c r hI => by
  obtain ⟨t, w, d, n, a, b, h, nx, hT, hW, hS, hH, hF⟩ := id hI
  have ht := hT.1
  unfold fX9_feed fX10_feed
  rw [hT.2.1, hT.2.2.1, show (20 : Int32) = nI 20 from rfl, nI_add, show (400 : Int32) = nI 400 from rfl]
  refine ok2_if Iff.rfl (fun hle _ => ?_) (fun _ _ => ok2_some ⟨rfl, hI⟩)
  have hle' : t + 20 ≤ 400 := (nIle (by omega) (by omega)).mp hle
  refine ok2_bind (feed1 v1 hT (by omega)) (fun c1 r1 h1 => ?_)
  refine ok2_bind (feed1 v2 h1.1 (by omega)) (fun c2 r2 h2 => ?_)
  refine ok2_bind (feed1 v3 h2.1 (by omega)) (fun c3 r3 h3 => ?_)
  refine ok2_bind (feed1 v4 h3.1 (by omega)) (fun c4 r4 h4 => ?_)
  refine ok2_bind (feed1 v5 h4.1 (by omega)) (fun c5 r5 h5 => ?_)
  refine ok2_some ⟨?_, INV_t hI (FS_tr h1.2.1 (FS_tr h2.2.1 (FS_tr h3.2.1 (FS_tr h4.2.1 h5.2.1)))) (rel_no (by decide)) (FS_tr h1.2.2 (FS_tr h2.2.2 (FS_tr h3.2.2 (FS_tr h4.2.2 h5.2.2)))) (rel_no (by decide)) h5.1⟩
  show gi c5 9 0 1 = gi r5 10 0 7
  rw [h5.1.2.1, h5.1.2.2.1]
