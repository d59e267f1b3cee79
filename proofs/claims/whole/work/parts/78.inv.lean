/-! what holds between the calls: c the memory of the class, r that of the reference -/
def byt (x : Int32) : Prop := x.toInt8.toInt32 = x
def TPI (t : Nat) (c r : zM) : Prop := t ≤ 400 ∧ gi c 9 0 1 = nI t ∧ gi r 10 0 7 = nI t ∧ ∀ i, i < 400 → gi c 36 0 i = gi r 43 0 i ∧ byt (gi c 36 0 i)
def WLI (w d n : Nat) (c r : zM) : Prop := gr c 9 2 = some w ∧ gr c 9 3 = some d ∧ w < 2 ∧ d < 2 ∧ w ≠ d ∧ gi c 8 w 1 = nI n ∧ gi r 38 0 1356 = nI n ∧ RelW n (fun u => uC c (12 * w + u)) (fun u => rR r 38 0 u)
def SH1 (j : Nat) (c r : zM) : Prop := ∃ n, gi c 8 (2 + j) 1 = nI n ∧ gi r 41 0 (1357 * j + 1356) = nI n ∧ RelW n (fun u => uC c (12 * (2 + j) + u)) (fun u => rR r 41 (1357 * j) u)
def SHI (a b : Nat) (c r : zM) : Prop := a ≤ 1 ∧ b ≤ 1 ∧ gi c 9 0 5 = nI (a + 2 * b) ∧ gi r 42 0 0 = nI a ∧ gi r 42 0 1 = nI b ∧ (a = 1 → SH1 0 c r) ∧ (b = 1 → SH1 1 c r)
def HST (w n h nx : Nat) (c r : zM) (W : Nat → Nat → Nat → Int32) : Prop := (∀ u, u < n → W 0 u = uC c (12 * w + u)) ∧ ∀ j, j < h → ∃ x, x < n ∧ gi c 15 0 ((nx + 9 - j) % 10) = nI x ∧ (∀ u, u < n → W (j + 1) u = if u = x then uC c (48 + (nx + 9 - j) % 10) else W j u) ∧ RelW n (W (j + 1)) (fun u => rR r 40 (1357 * (h - 1 - j)) u) ∧ gi r 40 0 (1357 * (h - 1 - j) + 1356) = nI n
def HII (w n h nx : Nat) (c r : zM) : Prop := h ≤ 10 ∧ nx < 10 ∧ gi c 1 0 3 = nI h ∧ gi r 10 0 5 = nI h ∧ gi c 1 0 2 = nI nx ∧ ∃ W, HST w n h nx c r W
/-- a letter has a body of its own -/
def bodyR (r : Nat → Int32) (b : Nat) : Prop := ∃ k, zfd (fun k => r (65 + 6 * k)) (nI b) (zn (r 64)) = some k ∧ 0 < zn (r (66 + 6 * k))
def SRC (n : Nat) (c : zM) (kc : Nat) (r : zM) (j u m : Nat) : Prop := ∃ a b, a < n ∧ b < 26 ∧ gi c kc 0 (26 * u + m) = nI (26 * a + b) ∧ gi r 44 0 (5 * (26 * u + m) + j) = nI a ∧ gi r 44 0 (5 * (26 * u + m) + j + 1) = nI b ∧ bodyR (rR r 38 0 a) b
def RFl (n : Nat) (c r : zM) (u m : Nat) : Prop := ∃ k, k < 4 ∧ gi c 11 0 (26 * u + m) = nI k ∧ gi r 44 0 (5 * (26 * u + m)) = nI k ∧ (k = 1 ∨ k = 3 → SRC n c 12 r 1 u m) ∧ (k = 3 → SRC n c 13 r 3 u m)
def RLi (n : Nat) (c r : zM) (u : Nat) : Prop := ∃ L K, L ≤ 12 ∧ K ≤ 12 ∧ gi c 18 0 u = nI L ∧ gi r 46 0 u = nI L ∧ (∀ i, i < L → ∃ t, t < n ∧ gi c 17 u i = nI t ∧ gi r 45 0 (12 * u + i) = nI t) ∧ gi c 21 0 u = nI K ∧ gi r 48 0 u = nI K ∧ ∀ i, i < K → gi c 20 u i = gi r 47 0 (12 * u + i)
def RFL (n : Nat) (c r : zM) : Prop := (∀ u m, u < n → m < 26 → RFl n c r u m) ∧ ∀ u, u < n → RLi n c r u
def Rch (rw : Nat → Nat → Int32) : Nat → Nat → Nat → Prop
  | 0, u, x => x = u
  | f + 1, u, x => x = u ∨ ∃ k, k < zn (rw u 2) ∧ Rch rw f (zn (rw u (3 + k))) x
def OVR (n : Nat) (c r : zM) : Prop := ∀ u, u < n → rR r 38 0 u 0 = 0 → ∃ b, b < 4096 ∧ gi c 22 0 u = nI b ∧ ∀ x, b.testBit x = true ↔ Rch (fun u => rR r 38 0 u) 12 u x
def FLV (c : zM) (w n : Nat) : Prop := ∀ r, gi r 38 0 1356 = nI n → RelW n (fun u => uC c (12 * w + u)) (fun u => rR r 38 0 u) → ok (fX10_lays_ r) (fun r' => RFL n c r') ∧ OVR n c r
def INV (c r : zM) : Prop := ∃ t w d n a b h nx, TPI t c r ∧ WLI w d n c r ∧ SHI a b c r ∧ HII w n h nx c r ∧ (gi c 9 0 12 = 1 ∨ (gi c 9 0 12 = 0 ∧ FLV c w n))
def relC : List Nat := [1901, 1905, 1912, 36, 109, 8, 5, 7, 30, 31, 32, 33, 34, 1102, 1103, 15, 11, 12, 13, 17, 18, 20, 21, 22]
def relR : List Nat := [2005, 2007, 43, 38, 40, 41, 42]
theorem rel_no {l ks : List Nat} (h : l.all (fun k => !ks.contains k) = true) : ∀ k ∈ l, k ∉ ks := fun k hk q => by
  have := List.all_eq_true.mp h k hk
  simp [q] at this
theorem RFL_c {n : Nat} {c c' r : zM} (h : RFL n c r) (h11 : ∀ s, gi c' 11 0 s = gi c 11 0 s) (h12 : ∀ s, gi c' 12 0 s = gi c 12 0 s) (h13 : ∀ s, gi c' 13 0 s = gi c 13 0 s) (h17 : ∀ i s, gi c' 17 i s = gi c 17 i s) (h18 : ∀ s, gi c' 18 0 s = gi c 18 0 s) (h20 : ∀ i s, gi c' 20 i s = gi c 20 i s) (h21 : ∀ s, gi c' 21 0 s = gi c 21 0 s) : RFL n c' r := by
  refine ⟨fun u m hu hm => ?_, fun u hu => ?_⟩
  · obtain ⟨k, a1, a2, a3, a4, a5⟩ := h.1 u m hu hm
    refine ⟨k, a1, by rw [h11]; exact a2, a3, fun q => ?_, fun q => ?_⟩
    · obtain ⟨a, b, b1, b2, b3, b4⟩ := a4 q
      exact ⟨a, b, b1, b2, by rw [h12]; exact b3, b4⟩
    · obtain ⟨a, b, b1, b2, b3, b4⟩ := a5 q
      exact ⟨a, b, b1, b2, by rw [h13]; exact b3, b4⟩
  · obtain ⟨L, K, a1, a2, a3, a4, a5, a6, a7, a8⟩ := h.2 u hu
    refine ⟨L, K, a1, a2, by rw [h18]; exact a3, a4, fun i hi => ?_, by rw [h21]; exact a6, a7, fun i hi => by rw [h20]; exact a8 i hi⟩
    obtain ⟨t, t1, t2, t3⟩ := a5 i hi
    exact ⟨t, t1, by rw [h17]; exact t2, t3⟩
theorem FLV_c {c c' : zM} {w n : Nat} (h : FLV c w n) (hu : ∀ u, u < n → uC c' (12 * w + u) = uC c (12 * w + u)) (h11 : ∀ s, gi c' 11 0 s = gi c 11 0 s) (h12 : ∀ s, gi c' 12 0 s = gi c 12 0 s) (h13 : ∀ s, gi c' 13 0 s = gi c 13 0 s) (h17 : ∀ i s, gi c' 17 i s = gi c 17 i s) (h18 : ∀ s, gi c' 18 0 s = gi c 18 0 s) (h20 : ∀ i s, gi c' 20 i s = gi c 20 i s) (h21 : ∀ s, gi c' 21 0 s = gi c 21 0 s) (h22 : ∀ s, gi c' 22 0 s = gi c 22 0 s) : FLV c' w n := fun r e hr => by
  obtain ⟨k1, k2⟩ := h r e (RelW_cg hr (fun u hun => (hu u hun).symm) (fun u _ => rfl))
  refine ⟨ok_mono k1 (fun r' hr' => RFL_c hr' h11 h12 h13 h17 h18 h20 h21), fun u hun hk => ?_⟩
  obtain ⟨b, b1, b2, b3⟩ := k2 u hun hk
  exact ⟨b, b1, by rw [h22]; exact b2, b3⟩
theorem INV_l {c c' r : zM} {ks : List Nat} (h : INV c r) (f : FS ks c c') (hk : ∀ k ∈ relC, k ∉ ks) : INV c' r := by
  obtain ⟨t, w, d, n, a, b, h', nx, hT, hW, hS, hH, hF⟩ := h
  have hu : ∀ q, uC c' q = uC c q := fun q => uC_fs f (fun k hk2 => hk k (zss (a := [5, 7, 30, 31, 32, 33, 34]) (by decide) k hk2)) q
  have g : ∀ k i s, zisf k = false → k ∈ relC → gi c' k i s = gi c k i s := fun k i s hf hk2 => FSa f i s hf (hk k hk2)
  have g9 : ∀ s, 1900 + s ∈ relC → gi c' 9 0 s = gi c 9 0 s := fun s hs => FSf f 0 (by decide) (hk _ (by rw [show 1000 + 100 * 9 + s = 1900 + s by omega]; exact hs))
  have g1 : ∀ s, 1100 + s ∈ relC → gi c' 1 0 s = gi c 1 0 s := fun s hs => FSf f 0 (by decide) (hk _ (by rw [show 1000 + 100 * 1 + s = 1100 + s by omega]; exact hs))
  have gr9 : ∀ s, gr c' 9 s = gr c 9 s := fun s => FSr f s (hk 109 (by decide))
  refine ⟨t, w, d, n, a, b, h', nx, ⟨hT.1, by rw [g9 1 (by decide)]; exact hT.2.1, hT.2.2.1, fun i hi => by rw [g 36 0 i (by decide) (by decide)]; exact hT.2.2.2 i hi⟩, ?_, ?_, ?_, ?_⟩
  · obtain ⟨w1, w2, w3, w4, w5, w6, w7, w8⟩ := hW
    exact ⟨by rw [gr9]; exact w1, by rw [gr9]; exact w2, w3, w4, w5, by rw [g 8 w 1 (by decide) (by decide)]; exact w6, w7, RelW_cg w8 (fun u _ => hu _) (fun u _ => rfl)⟩
  · obtain ⟨s1, s2, s3, s4, s5, s6, s7⟩ := hS
    refine ⟨s1, s2, by rw [g9 5 (by decide)]; exact s3, s4, s5, fun q => ?_, fun q => ?_⟩
    · obtain ⟨n', q1, q2, q3⟩ := s6 q
      exact ⟨n', by rw [g 8 _ 1 (by decide) (by decide)]; exact q1, q2, RelW_cg q3 (fun u _ => hu _) (fun u _ => rfl)⟩
    · obtain ⟨n', q1, q2, q3⟩ := s7 q
      exact ⟨n', by rw [g 8 _ 1 (by decide) (by decide)]; exact q1, q2, RelW_cg q3 (fun u _ => hu _) (fun u _ => rfl)⟩
  · obtain ⟨p1, p2, p3, p4, p5, W, p6, p7⟩ := hH
    refine ⟨p1, p2, by rw [g1 3 (by decide)]; exact p3, p4, by rw [g1 2 (by decide)]; exact p5, W, fun u hun => by rw [hu]; exact p6 u hun, fun j hj => ?_⟩
    obtain ⟨x, x1, x2, x3, x4⟩ := p7 j hj
    exact ⟨x, x1, by rw [g 15 0 _ (by decide) (by decide)]; exact x2, fun u hun => by rw [hu]; exact x3 u hun, x4⟩
  · rw [g9 12 (by decide)]
    rcases hF with q | ⟨q, q2⟩
    · exact Or.inl q
    · exact Or.inr ⟨q, FLV_c q2 (fun u _ => hu _) (fun s => g 11 0 s (by decide) (by decide)) (fun s => g 12 0 s (by decide) (by decide)) (fun s => g 13 0 s (by decide) (by decide)) (fun i s => g 17 i s (by decide) (by decide)) (fun s => g 18 0 s (by decide) (by decide)) (fun i s => g 20 i s (by decide) (by decide)) (fun s => g 21 0 s (by decide) (by decide)) (fun s => g 22 0 s (by decide) (by decide))⟩
theorem INV_r {c r r' : zM} {ks : List Nat} (h : INV c r) (f : FS ks r r') (hk : ∀ k ∈ relR, k ∉ ks) : INV c r' := by
  obtain ⟨t, w, d, n, a, b, h', nx, hT, hW, hS, hH, hF⟩ := h
  have g : ∀ k i s, zisf k = false → k ∈ relR → gi r' k i s = gi r k i s := fun k i s hf hk2 => FSa f i s hf (hk k hk2)
  have g10 : ∀ s, 2000 + s ∈ relR → gi r' 10 0 s = gi r 10 0 s := fun s hs => FSf f 0 (by decide) (hk _ (by rw [show 1000 + 100 * 10 + s = 2000 + s by omega]; exact hs))
  have hr : ∀ k b u, zisf k = false → k ∈ relR → rR r' k b u = rR r k b u := fun k b u hf hk2 => rR_cg (fun s _ => g k 0 _ hf hk2)
  refine ⟨t, w, d, n, a, b, h', nx, ⟨hT.1, hT.2.1, by rw [g10 7 (by decide)]; exact hT.2.2.1, fun i hi => by rw [g 43 0 i (by decide) (by decide)]; exact hT.2.2.2 i hi⟩, ?_, ?_, ?_, hF⟩
  · obtain ⟨w1, w2, w3, w4, w5, w6, w7, w8⟩ := hW
    exact ⟨w1, w2, w3, w4, w5, w6, by rw [g 38 0 _ (by decide) (by decide)]; exact w7, RelW_cg w8 (fun u _ => rfl) (fun u _ => hr 38 0 u (by decide) (by decide))⟩
  · obtain ⟨s1, s2, s3, s4, s5, s6, s7⟩ := hS
    refine ⟨s1, s2, s3, by rw [g 42 0 0 (by decide) (by decide)]; exact s4, by rw [g 42 0 1 (by decide) (by decide)]; exact s5, fun q => ?_, fun q => ?_⟩
    · obtain ⟨n', q1, q2, q3⟩ := s6 q
      exact ⟨n', q1, by rw [g 41 0 _ (by decide) (by decide)]; exact q2, RelW_cg q3 (fun u _ => rfl) (fun u _ => hr 41 _ u (by decide) (by decide))⟩
    · obtain ⟨n', q1, q2, q3⟩ := s7 q
      exact ⟨n', q1, by rw [g 41 0 _ (by decide) (by decide)]; exact q2, RelW_cg q3 (fun u _ => rfl) (fun u _ => hr 41 _ u (by decide) (by decide))⟩
  · obtain ⟨p1, p2, p3, p4, p5, W, p6, p7⟩ := hH
    refine ⟨p1, p2, p3, by rw [g10 5 (by decide)]; exact p4, p5, W, p6, fun j hj => ?_⟩
    obtain ⟨x, x1, x2, x3, x4, x5⟩ := p7 j hj
    exact ⟨x, x1, x2, x3, RelW_cg x4 (fun u _ => rfl) (fun u _ => hr 40 _ u (by decide) (by decide)), by rw [g 40 0 _ (by decide) (by decide)]; exact x5⟩
