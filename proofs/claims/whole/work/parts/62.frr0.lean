theorem frX10_puts_L3 {ks : List Nat} (hk : ∀ k ∈ [43, 2007], k ∈ ks) {m0 : zM} {v1 : Int32} {s : (Int32 × zM)} (h : FS ks m0 s.2) : Fr (Sum.elim (fun o => FS ks m0 o.2) (Sum.elim (fun o => FS ks m0 o) (fun _ => True))) (fX10_puts_L3 v1 s) := by
  unfold fX10_puts_L3
  exact (Fr_ite (Fr_some h) (Fr_zob (Fr_some (FS_wf (by decide) (hk _ (by decide)) (FS_wa (by decide) (hk _ (by decide)) h)))))
theorem frX10_puts {ks : List Nat} (hk : ∀ k ∈ [43, 2007], k ∈ ks) {m0 : zM} {v1 : Int32} {mm : zM} (h : FS ks m0 mm) : Fr (fun o => FS ks m0 o) (fX10_puts v1 mm) := by
  unfold fX10_puts
  exact (Fr_lc (pS := (fun o => FS ks m0 o.2)) (pE := (fun o => FS ks m0 o)) (pR := (fun _ => True)) (fun s hs => frX10_puts_L3 (fun k h9 => hk k (zss (by decide) k h9)) hs) h (fun y1 h_y1 => (Fr_some h_y1)) (fun r2 h_r2 => (Fr_el r2)))
theorem frX10_feed {ks : List Nat} (hk : ∀ k ∈ [43, 2007], k ∈ ks) {m0 : zM} {v1 : Int32} {v2 : Int32} {v3 : Int32} {v4 : Int32} {v5 : Int32} {mm : zM} (h : FS ks m0 mm) : Fr (fun o => FS ks m0 o.2) (fX10_feed v1 v2 v3 v4 v5 mm) := by
  unfold fX10_feed
  exact (Fr_ite (Fr_bind (frX10_puts (fun k h9 => hk k (zss (by decide) k h9)) h) (fun x1 h_x1 => (Fr_bind (frX10_puts (fun k h9 => hk k (zss (by decide) k h9)) h_x1) (fun x2 h_x2 => (Fr_bind (frX10_puts (fun k h9 => hk k (zss (by decide) k h9)) h_x2) (fun x3 h_x3 => (Fr_bind (frX10_puts (fun k h9 => hk k (zss (by decide) k h9)) h_x3) (fun x4 h_x4 => (Fr_bind (frX10_puts (fun k h9 => hk k (zss (by decide) k h9)) h_x4) (fun x5 h_x5 => (Fr_some h_x5))))))))))) (Fr_some h))
theorem frX10_end {ks : List Nat} (hk : ∀ k ∈ [2007], k ∈ ks) {m0 : zM} {v1 : Int32} {mm : zM} (h : FS ks m0 mm) : Fr (fun o => FS ks m0 o.2) (fX10_end v1 mm) := by
  unfold fX10_end
  exact (Fr_ite (Fr_some h) (Fr_ite (Fr_some (FS_wf (by decide) (hk _ (by decide)) h)) (Fr_some h)))
theorem frX10_next_L0 {ks : List Nat} (hk : ∀ k ∈ [2008], k ∈ ks) {m0 : zM} {s : zM} (h : FS ks m0 s) : Fr (Sum.elim (fun o => FS ks m0 o) (Sum.elim (fun o => FS ks m0 o) (fun _ => True))) (fX10_next_L0 s) := by
  unfold fX10_next_L0
  exact (Fr_b0 (fun x1 => (Fr_ite (Fr_some (FS_wf (by decide) (hk _ (by decide)) h)) (Fr_some h))))
theorem frX10_next {ks : List Nat} (hk : ∀ k ∈ [2008], k ∈ ks) {m0 : zM} {mm : zM} (h : FS ks m0 mm) : Fr (fun o => FS ks m0 o.2) (fX10_next mm) := by
  unfold fX10_next
  exact (Fr_lc (pS := (fun o => FS ks m0 o)) (pE := (fun o => FS ks m0 o)) (pR := (fun _ => True)) (fun s hs => frX10_next_L0 (fun k h9 => hk k (zss (by decide) k h9)) hs) h (fun y2 h_y2 => (Fr_b0 (fun x4 => (Fr_some h_y2)))) (fun r3 h_r3 => (Fr_el r3)))
theorem frX10_wordLong {ks : List Nat} (hk : ∀ k ∈ [2008], k ∈ ks) {m0 : zM} {mm : zM} (h : FS ks m0 mm) : Fr (fun o => FS ks m0 o.2) (fX10_wordLong mm) := by
  unfold fX10_wordLong
  exact (Fr_bind (frX10_next (fun k h9 => hk k (zss (by decide) k h9)) h) (fun x1 h_x1 => (Fr_lc0 (fun y3 => (Fr_some h_x1)) (fun r4 => (Fr_el r4)))))
theorem frX10_takes_J86 {ks : List Nat} (hk : ∀ k ∈ [2008], k ∈ ks) {m0 : zM} {v3 : Int32} {s0 : Int32} {s1 : Int32} {mm : zM} (h : FS ks m0 mm) : Fr (fun o => FS ks m0 o.2) (fX10_takes_J86 v3 s0 s1 mm) := by
  unfold fX10_takes_J86
  exact (Fr_zob (Fr_some (FS_wf (by decide) (hk _ (by decide)) h)))
theorem frX10_takes_J25 {ks : List Nat} (hk : ∀ k ∈ [2008], k ∈ ks) {m0 : zM} {v1 : Nat} {v2 : Int32} {s0 : Int32} {mm : zM} (h : FS ks m0 mm) : Fr (fun o => FS ks m0 o.2) (fX10_takes_J25 v1 v2 s0 mm) := by
  unfold fX10_takes_J25
  exact (Fr_lc0 (fun y3 => (Fr_ite (frX10_takes_J86 (fun k h9 => hk k (zss (by decide) k h9)) h) (frX10_takes_J86 (fun k h9 => hk k (zss (by decide) k h9)) h))) (fun r4 => (Fr_el r4)))
theorem frX10_takes_J24 {ks : List Nat} (hk : ∀ k ∈ [2008], k ∈ ks) {m0 : zM} {v1 : Nat} {v2 : Int32} {mm : zM} (h : FS ks m0 mm) : Fr (fun o => FS ks m0 o.2) (fX10_takes_J24 v1 v2 mm) := by
  unfold fX10_takes_J24
  exact (frX10_takes_J25 (fun k h9 => hk k (zss (by decide) k h9)) h)
theorem frX10_takes {ks : List Nat} (hk : ∀ k ∈ [2008], k ∈ ks) {m0 : zM} {v1 : Nat} {mm : zM} (h : FS ks m0 mm) : Fr (fun o => FS ks m0 o.2) (fX10_takes v1 mm) := by
  unfold fX10_takes
  exact (Fr_bind (frX10_wordLong (fun k h9 => hk k (zss (by decide) k h9)) h) (fun x1 h_x1 => (Fr_b0 (fun x2 => (Fr_ite (frX10_takes_J24 (fun k h9 => hk k (zss (by decide) k h9)) h_x1) (Fr_ite (frX10_takes_J25 (fun k h9 => hk k (zss (by decide) k h9)) h_x1) (frX10_takes_J24 (fun k h9 => hk k (zss (by decide) k h9)) h_x1)))))))
theorem frX10_fails {ks : List Nat} (hk : ∀ k ∈ [2009], k ∈ ks) {m0 : zM} {v1 : Int32} {v2 : Int32} {mm : zM} (h : FS ks m0 mm) : Fr (fun o => FS ks m0 o) (fX10_fails v1 v2 mm) := by
  unfold fX10_fails
  exact (Fr_b0 (fun x1 => (Fr_ite (Fr_some h) (Fr_some (FS_wf (by decide) (hk _ (by decide)) h)))))
theorem frX10_isCapital {ks : List Nat} (hk : ∀ k ∈ [2008], k ∈ ks) {m0 : zM} {mm : zM} (h : FS ks m0 mm) : Fr (fun o => FS ks m0 o.2) (fX10_isCapital mm) := by
  unfold fX10_isCapital
  exact (Fr_bind (frX10_next (fun k h9 => hk k (zss (by decide) k h9)) h) (fun x1 h_x1 => (Fr_b0 (fun x2 => (Fr_zob (Fr_some h_x1))))))
theorem frX10_takesSign_J20 {ks : List Nat} (hk : ∀ k ∈ [2008], k ∈ ks) {m0 : zM} {s0 : Int32} {mm : zM} (h : FS ks m0 mm) : Fr (fun o => FS ks m0 o.2) (fX10_takesSign_J20 s0 mm) := by
  unfold fX10_takesSign_J20
  exact (Fr_b0 (fun x2 => (Fr_zob (Fr_some (FS_wf (by decide) (hk _ (by decide)) h)))))
theorem frX10_takesSign_J19 {ks : List Nat} (hk : ∀ k ∈ [2008], k ∈ ks) {m0 : zM} {mm : zM} (h : FS ks m0 mm) : Fr (fun o => FS ks m0 o.2) (fX10_takesSign_J19 mm) := by
  unfold fX10_takesSign_J19
  exact (frX10_takesSign_J20 (fun k h9 => hk k (zss (by decide) k h9)) h)
theorem frX10_takesSign {ks : List Nat} (hk : ∀ k ∈ [2008], k ∈ ks) {m0 : zM} {v1 : Int32} {mm : zM} (h : FS ks m0 mm) : Fr (fun o => FS ks m0 o.2) (fX10_takesSign v1 mm) := by
  unfold fX10_takesSign
  exact (Fr_b0 (fun x1 => (Fr_ite (frX10_takesSign_J19 (fun k h9 => hk k (zss (by decide) k h9)) h) (Fr_bind (frX10_next (fun k h9 => hk k (zss (by decide) k h9)) h) (fun x3 h_x3 => (Fr_ite (frX10_takesSign_J20 (fun k h9 => hk k (zss (by decide) k h9)) h_x3) (frX10_takesSign_J19 (fun k h9 => hk k (zss (by decide) k h9)) h_x3)))))))
theorem frX10_letter {ks : List Nat} (hk : ∀ k ∈ [2008, 2009, 2010], k ∈ ks) {m0 : zM} {mm : zM} (h : FS ks m0 mm) : Fr (fun o => FS ks m0 o.2) (fX10_letter mm) := by
  unfold fX10_letter
  exact (Fr_bind (frX10_wordLong (fun k h9 => hk k (zss (by decide) k h9)) h) (fun x1 h_x1 => (Fr_ite (Fr_zob (Fr_some (FS_wf (by decide) (hk _ (by decide)) (FS_wf (by decide) (hk _ (by decide)) h_x1)))) (Fr_bind (frX10_fails (fun k h9 => hk k (zss (by decide) k h9)) (FS_wf (by decide) (hk _ (by decide)) h_x1)) (fun x2 h_x2 => (Fr_some h_x2))))))
theorem frX10_must {ks : List Nat} (hk : ∀ k ∈ [2008, 2009], k ∈ ks) {m0 : zM} {v1 : Int32} {mm : zM} (h : FS ks m0 mm) : Fr (fun o => FS ks m0 o) (fX10_must v1 mm) := by
  unfold fX10_must
  exact (Fr_bind (frX10_takesSign (fun k h9 => hk k (zss (by decide) k h9)) h) (fun x1 h_x1 => (Fr_ite (Fr_bind (frX10_fails (fun k h9 => hk k (zss (by decide) k h9)) h_x1) (fun x2 h_x2 => (Fr_some h_x2))) (Fr_some h_x1))))
theorem frX10_term_L26 {ks : List Nat} (hk : ∀ k ∈ [2008], k ∈ ks) {m0 : zM} {v1 : Int32} {s : (Int32 × zM)} (h : FS ks m0 s.2) : Fr (Sum.elim (fun o => FS ks m0 o.2) (Sum.elim (fun o => FS ks m0 o.2) (fun _ => True))) (fX10_term_L26 v1 s) := by
  unfold fX10_term_L26
  exact (Fr_b0 (fun x5 => (Fr_b0 (fun x6 => (Fr_ite (Fr_some h) (Fr_b0 (fun x7 => (Fr_some (FS_wf (by decide) (hk _ (by decide)) h)))))))))
theorem frX10_term {ks : List Nat} (hk : ∀ k ∈ [2008, 2009, 2010], k ∈ ks) {m0 : zM} {mm : zM} (h : FS ks m0 mm) : Fr (fun o => FS ks m0 o.2) (fX10_term mm) := by
  unfold fX10_term
  exact (Fr_bind (frX10_next (fun k h9 => hk k (zss (by decide) k h9)) h) (fun x1 h_x1 => (Fr_b0 (fun x2 => (Fr_ite (Fr_bind (frX10_takes (fun k h9 => hk k (zss (by decide) k h9)) h_x1) (fun x3 h_x3 => (Fr_ite (Fr_bind (frX10_letter (fun k h9 => hk k (zss (by decide) k h9)) h_x3) (fun x4 h_x4 => (Fr_some h_x4))) (Fr_some h_x3)))) (Fr_lc (pS := (fun o => FS ks m0 o.2)) (pE := (fun o => FS ks m0 o.2)) (pR := (fun _ => True)) (fun s hs => frX10_term_L26 (fun k h9 => hk k (zss (by decide) k h9)) hs) h_x1 (fun y8 h_y8 => (Fr_ite (Fr_some h_y8) (Fr_bind (frX10_fails (fun k h9 => hk k (zss (by decide) k h9)) h_y8) (fun x10 h_x10 => (Fr_some h_x10))))) (fun r9 h_r9 => (Fr_el r9))))))))
theorem frX10_readsTerms_J85 {ks : List Nat} (hk : ∀ k ∈ [2008], k ∈ ks) {m0 : zM} {v1 : Int32} {mm : zM} (h : FS ks m0 mm) : Fr (Sum.elim (fun o => FS ks m0 o.2) (Sum.elim (fun o => FS ks m0 o) (fun _ => True))) (fX10_readsTerms_J85 v1 mm) := by
  unfold fX10_readsTerms_J85
  exact (Fr_bind (frX10_takesSign (fun k h9 => hk k (zss (by decide) k h9)) h) (fun x5 h_x5 => (Fr_some h_x5)))
theorem frX10_readsTerms_J47 {ks : List Nat} (hk : ∀ k ∈ [39, 2008], k ∈ ks) {m0 : zM} {v1 : Int32} {v4 : Int32} {mm : zM} (h : FS ks m0 mm) : Fr (Sum.elim (fun o => FS ks m0 o.2) (Sum.elim (fun o => FS ks m0 o) (fun _ => True))) (fX10_readsTerms_J47 v1 v4 mm) := by
  unfold fX10_readsTerms_J47
  exact (Fr_b0 (fun x4 => (Fr_ite (frX10_readsTerms_J85 (fun k h9 => hk k (zss (by decide) k h9)) h) (Fr_zob (Fr_zob (Fr_zob (Fr_zob (frX10_readsTerms_J85 (fun k h9 => hk k (zss (by decide) k h9)) (FS_wa (by decide) (hk _ (by decide)) (FS_wa (by decide) (hk _ (by decide)) h))))))))))
theorem frX10_readsTerms_L2 {ks : List Nat} (hk : ∀ k ∈ [39, 2008, 2009, 2010], k ∈ ks) {m0 : zM} {v1 : Int32} {s : (Int32 × zM)} (h : FS ks m0 s.2) : Fr (Sum.elim (fun o => FS ks m0 o.2) (Sum.elim (fun o => FS ks m0 o) (fun _ => True))) (fX10_readsTerms_L2 v1 s) := by
  unfold fX10_readsTerms_L2
  exact (Fr_ite (Fr_some h) (Fr_bind (frX10_next (fun k h9 => hk k (zss (by decide) k h9)) h) (fun x1 h_x1 => (Fr_bind (frX10_term (fun k h9 => hk k (zss (by decide) k h9)) h_x1) (fun x2 h_x2 => (Fr_b0 (fun x3 => (Fr_ite (frX10_readsTerms_J47 (fun k h9 => hk k (zss (by decide) k h9)) h_x2) (Fr_zob (Fr_ite (Fr_bind (frX10_fails (fun k h9 => hk k (zss (by decide) k h9)) h_x2) (fun x6 h_x6 => (frX10_readsTerms_J47 (fun k h9 => hk k (zss (by decide) k h9)) h_x6))) (frX10_readsTerms_J47 (fun k h9 => hk k (zss (by decide) k h9)) h_x2)))))))))))
theorem frX10_readsTerms {ks : List Nat} (hk : ∀ k ∈ [39, 2008, 2009, 2010], k ∈ ks) {m0 : zM} {v1 : Int32} {mm : zM} (h : FS ks m0 mm) : Fr (fun o => FS ks m0 o) (fX10_readsTerms v1 mm) := by
  unfold fX10_readsTerms
  exact (Fr_lc (pS := (fun o => FS ks m0 o.2)) (pE := (fun o => FS ks m0 o)) (pR := (fun _ => True)) (fun s hs => frX10_readsTerms_L2 (fun k h9 => hk k (zss (by decide) k h9)) hs) h (fun y7 h_y7 => (Fr_some h_y7)) (fun r8 h_r8 => (Fr_el r8)))
theorem frX10_readsOwns_L29 {ks : List Nat} (hk : ∀ k ∈ [2009], k ∈ ks) {m0 : zM} {v1 : Int32} {v2 : Int32} {v4 : Int32} {v5 : Int32} {s : (Int32 × zM)} (h : FS ks m0 s.2) : Fr (Sum.elim (fun o => FS ks m0 o.2) (Sum.elim (fun o => FS ks m0 o) (fun _ => True))) (fX10_readsOwns_L29 v1 v2 v4 v5 s) := by
  unfold fX10_readsOwns_L29
  exact (Fr_zob (Fr_ite (Fr_some h) (Fr_b0 (fun x2 => (Fr_ite (Fr_some h) (Fr_b0 (fun x3 => (Fr_zob (Fr_ite (Fr_bind (frX10_fails (fun k h9 => hk k (zss (by decide) k h9)) h) (fun x4 h_x4 => (Fr_some h_x4))) (Fr_some h))))))))))
theorem frX10_readsOwns_J178 {ks : List Nat} (hk : ∀ k ∈ [2008], k ∈ ks) {m0 : zM} {v1 : Int32} {v2 : Int32} {mm : zM} (h : FS ks m0 mm) : Fr (Sum.elim (fun o => FS ks m0 o.2) (Sum.elim (fun o => FS ks m0 o) (fun o => FS ks m0 o))) (fX10_readsOwns_J178 v1 v2 mm) := by
  unfold fX10_readsOwns_J178
  exact (Fr_b0 (fun x11 => (Fr_ite (Fr_some h) (Fr_bind (frX10_wordLong (fun k h9 => hk k (zss (by decide) k h9)) h) (fun x12 h_x12 => (Fr_ite (Fr_some h_x12) (Fr_some h_x12)))))))
theorem frX10_readsOwns_J101 {ks : List Nat} (hk : ∀ k ∈ [39, 2008, 2009, 2010], k ∈ ks) {m0 : zM} {v1 : Int32} {v2 : Int32} {v4 : Int32} {mm : zM} (h : FS ks m0 mm) : Fr (Sum.elim (fun o => FS ks m0 o.2) (Sum.elim (fun o => FS ks m0 o) (fun o => FS ks m0 o))) (fX10_readsOwns_J101 v1 v2 v4 mm) := by
  unfold fX10_readsOwns_J101
  exact (Fr_b0 (fun x8 => (Fr_ite (Fr_some h) (Fr_zob (Fr_b0 (fun x9 => (Fr_zob (Fr_zob (Fr_zob (Fr_zob (Fr_bind (frX10_takesSign (fun k h9 => hk k (zss (by decide) k h9)) (FS_wa (by decide) (hk _ (by decide)) (FS_wa (by decide) (hk _ (by decide)) (FS_wa (by decide) (hk _ (by decide)) h)))) (fun x10 h_x10 => (Fr_ite (Fr_bind (frX10_must (fun k h9 => hk k (zss (by decide) k h9)) h_x10) (fun x13 h_x13 => (Fr_b0 (fun x14 => (Fr_ite (frX10_readsOwns_J178 (fun k h9 => hk k (zss (by decide) k h9)) h_x13) (Fr_bind (frX10_readsTerms (fun k h9 => hk k (zss (by decide) k h9)) h_x13) (fun x15 h_x15 => (frX10_readsOwns_J178 (fun k h9 => hk k (zss (by decide) k h9)) h_x15)))))))) (frX10_readsOwns_J178 (fun k h9 => hk k (zss (by decide) k h9)) h_x10))))))))))))))
theorem frX10_readsOwns_L10 {ks : List Nat} (hk : ∀ k ∈ [39, 2008, 2009, 2010], k ∈ ks) {m0 : zM} {v1 : Int32} {v2 : Int32} {s : (Int32 × zM)} (h : FS ks m0 s.2) : Fr (Sum.elim (fun o => FS ks m0 o.2) (Sum.elim (fun o => FS ks m0 o) (fun o => FS ks m0 o))) (fX10_readsOwns_L10 v1 v2 s) := by
  unfold fX10_readsOwns_L10
  exact (Fr_ite (Fr_some h) (Fr_bind (frX10_letter (fun k h9 => hk k (zss (by decide) k h9)) h) (fun x1 h_x1 => (Fr_lc (pS := (fun o => FS ks m0 o.2)) (pE := (fun o => FS ks m0 o)) (pR := (fun _ => True)) (fun s hs => frX10_readsOwns_L29 (fun k h9 => hk k (zss (by decide) k h9)) hs) h_x1 (fun y5 h_y5 => (Fr_b0 (fun x7 => (Fr_ite (frX10_readsOwns_J101 (fun k h9 => hk k (zss (by decide) k h9)) h_y5) (Fr_zob (Fr_ite (Fr_bind (frX10_fails (fun k h9 => hk k (zss (by decide) k h9)) h_y5) (fun x16 h_x16 => (frX10_readsOwns_J101 (fun k h9 => hk k (zss (by decide) k h9)) h_x16))) (frX10_readsOwns_J101 (fun k h9 => hk k (zss (by decide) k h9)) h_y5))))))) (fun r6 h_r6 => (Fr_el r6))))))
theorem frX10_readsOwns {ks : List Nat} (hk : ∀ k ∈ [39, 2008, 2009, 2010], k ∈ ks) {m0 : zM} {v1 : Int32} {mm : zM} (h : FS ks m0 mm) : Fr (fun o => FS ks m0 o) (fX10_readsOwns v1 mm) := by
  unfold fX10_readsOwns
  exact (Fr_lc (pS := (fun o => FS ks m0 o.2)) (pE := (fun o => FS ks m0 o)) (pR := (fun o => FS ks m0 o)) (fun s hs => frX10_readsOwns_L10 (fun k h9 => hk k (zss (by decide) k h9)) hs) h (fun y18 h_y18 => (Fr_some h_y18)) (fun r19 h_r19 => (Fr_some h_r19)))
theorem frX10_named_J14 {ks : List Nat} (hk : ∀ k ∈ [2009], k ∈ ks) {m0 : zM} {mm : zM} (h : FS ks m0 mm) : Fr (fun o => FS ks m0 o.2) (fX10_named_J14 mm) := by
  unfold fX10_named_J14
  exact (Fr_bind (frX10_fails (fun k h9 => hk k (zss (by decide) k h9)) h) (fun x2 h_x2 => (Fr_some h_x2)))
theorem frX10_named_J143 {ks : List Nat} (hk : ∀ k ∈ [2008], k ∈ ks) {m0 : zM} {v5 : Int32} {mm : zM} (h : FS ks m0 mm) : Fr (fun o => FS ks m0 o.2) (fX10_named_J143 v5 mm) := by
  unfold fX10_named_J143
  exact (Fr_some (FS_wf (by decide) (hk _ (by decide)) h))
theorem frX10_named_J65 {ks : List Nat} (hk : ∀ k ∈ [2008, 2009], k ∈ ks) {m0 : zM} {v2 : Int32} {v3 : Int32} {v4 : Int32} {v5 : Int32} {s0 : Int32} {mm : zM} (h : FS ks m0 mm) : Fr (fun o => FS ks m0 o.2) (fX10_named_J65 v2 v3 v4 v5 s0 mm) := by
  unfold fX10_named_J65
  exact (Fr_lc0 (fun y6 => (Fr_ite (Fr_bind (frX10_fails (fun k h9 => hk k (zss (by decide) k h9)) h) (fun x9 h_x9 => (frX10_named_J143 (fun k h9 => hk k (zss (by decide) k h9)) h_x9))) (Fr_ite (Fr_bind (frX10_fails (fun k h9 => hk k (zss (by decide) k h9)) h) (fun x8 h_x8 => (frX10_named_J143 (fun k h9 => hk k (zss (by decide) k h9)) h_x8))) (frX10_named_J143 (fun k h9 => hk k (zss (by decide) k h9)) h)))) (fun r7 => (Fr_el r7)))
theorem frX10_named_J64 {ks : List Nat} (hk : ∀ k ∈ [2008, 2009], k ∈ ks) {m0 : zM} {v2 : Int32} {v3 : Int32} {v4 : Int32} {v5 : Int32} {mm : zM} (h : FS ks m0 mm) : Fr (fun o => FS ks m0 o.2) (fX10_named_J64 v2 v3 v4 v5 mm) := by
  unfold fX10_named_J64
  exact (frX10_named_J65 (fun k h9 => hk k (zss (by decide) k h9)) h)
theorem frX10_named {ks : List Nat} (hk : ∀ k ∈ [2008, 2009], k ∈ ks) {m0 : zM} {v1 : Int32} {v2 : Int32} {v3 : Int32} {v4 : Int32} {mm : zM} (h : FS ks m0 mm) : Fr (fun o => FS ks m0 o.2) (fX10_named v1 v2 v3 v4 mm) := by
  unfold fX10_named
  exact (Fr_b0 (fun x1 => (Fr_ite (frX10_named_J14 (fun k h9 => hk k (zss (by decide) k h9)) h) (Fr_bind (frX10_isCapital (fun k h9 => hk k (zss (by decide) k h9)) h) (fun x3 h_x3 => (Fr_ite (frX10_named_J14 (fun k h9 => hk k (zss (by decide) k h9)) h_x3) (Fr_b0 (fun x4 => (Fr_b0 (fun x5 => (Fr_ite (frX10_named_J64 (fun k h9 => hk k (zss (by decide) k h9)) h_x3) (Fr_zob (Fr_ite (frX10_named_J65 (fun k h9 => hk k (zss (by decide) k h9)) h_x3) (frX10_named_J64 (fun k h9 => hk k (zss (by decide) k h9)) h_x3))))))))))))))
theorem frX10_lays {ks : List Nat} (hk : ∀ k ∈ [39], k ∈ ks) {m0 : zM} {v1 : Int32} {v2 : Int32} {v3 : Int32} {mm : zM} (h : FS ks m0 mm) : Fr (fun o => FS ks m0 o) (fX10_lays v1 v2 v3 mm) := by
  unfold fX10_lays
  exact (Fr_b0 (fun x1 => (Fr_ite (Fr_some h) (Fr_ite (Fr_some h) (Fr_zob (Fr_zob (Fr_zob (Fr_zob (Fr_zob (Fr_some (FS_wa (by decide) (hk _ (by decide)) (FS_wa (by decide) (hk _ (by decide)) (FS_wa (by decide) (hk _ (by decide)) h)))))))))))))
theorem frX10_readsChange_J165 {ks : List Nat} (hk : ∀ k ∈ [39, 2011], k ∈ ks) {m0 : zM} {v3 : Int32} {v4 : Int32} {s0 : Int32} {s1 : Int32} {s2 : Int32} {mm : zM} (h : FS ks m0 mm) : Fr (fun o => FS ks m0 o) (fX10_readsChange_J165 v3 v4 s0 s1 s2 mm) := by
  unfold fX10_readsChange_J165
  exact (Fr_bind (frX10_lays (fun k h9 => hk k (zss (by decide) k h9)) h) (fun x7 h_x7 => (Fr_some (FS_wf (by decide) (hk _ (by decide)) h_x7))))
theorem frX10_readsChange_J140 {ks : List Nat} (hk : ∀ k ∈ [39, 2008, 2009, 2010, 2011], k ∈ ks) {m0 : zM} {v1 : Int32} {v3 : Int32} {v4 : Int32} {mm : zM} (h : FS ks m0 mm) : Fr (fun o => FS ks m0 o) (fX10_readsChange_J140 v1 v3 v4 mm) := by
  unfold fX10_readsChange_J140
  exact (Fr_bind (frX10_must (fun k h9 => hk k (zss (by decide) k h9)) h) (fun x5 h_x5 => (Fr_b0 (fun x6 => (Fr_ite (frX10_readsChange_J165 (fun k h9 => hk k (zss (by decide) k h9)) h_x5) (Fr_bind (frX10_letter (fun k h9 => hk k (zss (by decide) k h9)) h_x5) (fun x8 h_x8 => (frX10_readsChange_J165 (fun k h9 => hk k (zss (by decide) k h9)) h_x8))))))))
theorem frX10_readsChange_J118 {ks : List Nat} (hk : ∀ k ∈ [39, 2008, 2009, 2010, 2011], k ∈ ks) {m0 : zM} {v1 : Int32} {v2 : Int32} {v3 : Int32} {v4 : Int32} {mm : zM} (h : FS ks m0 mm) : Fr (fun o => FS ks m0 o) (fX10_readsChange_J118 v1 v2 v3 v4 mm) := by
  unfold fX10_readsChange_J118
  exact (Fr_b0 (fun x4 => (Fr_ite (frX10_readsChange_J140 (fun k h9 => hk k (zss (by decide) k h9)) h) (Fr_ite (Fr_bind (frX10_fails (fun k h9 => hk k (zss (by decide) k h9)) h) (fun x9 h_x9 => (frX10_readsChange_J140 (fun k h9 => hk k (zss (by decide) k h9)) h_x9))) (frX10_readsChange_J140 (fun k h9 => hk k (zss (by decide) k h9)) h)))))
theorem frX10_readsChange_J65 {ks : List Nat} (hk : ∀ k ∈ [39, 2011], k ∈ ks) {m0 : zM} {v1 : Int32} {v3 : Int32} {v4 : Int32} {mm : zM} (h : FS ks m0 mm) : Fr (fun o => FS ks m0 o) (fX10_readsChange_J65 v1 v3 v4 mm) := by
  unfold fX10_readsChange_J65
  exact (Fr_bind (frX10_lays (fun k h9 => hk k (zss (by decide) k h9)) h) (fun x14 h_x14 => (Fr_some (FS_wf (by decide) (hk _ (by decide)) h_x14))))
theorem frX10_readsChange_J24 {ks : List Nat} (hk : ∀ k ∈ [39, 2008, 2009, 2010, 2011], k ∈ ks) {m0 : zM} {v1 : Int32} {v3 : Int32} {mm : zM} (h : FS ks m0 mm) : Fr (fun o => FS ks m0 o) (fX10_readsChange_J24 v1 v3 mm) := by
  unfold fX10_readsChange_J24
  exact (Fr_bind (frX10_letter (fun k h9 => hk k (zss (by decide) k h9)) (FS_wf (by decide) (hk _ (by decide)) h)) (fun x12 h_x12 => (Fr_b0 (fun x13 => (Fr_ite (frX10_readsChange_J65 (fun k h9 => hk k (zss (by decide) k h9)) h_x12) (Fr_b0 (fun x15 => (Fr_ite (frX10_readsChange_J65 (fun k h9 => hk k (zss (by decide) k h9)) h_x12) (Fr_bind (frX10_fails (fun k h9 => hk k (zss (by decide) k h9)) h_x12) (fun x16 h_x16 => (frX10_readsChange_J65 (fun k h9 => hk k (zss (by decide) k h9)) h_x16)))))))))))
theorem frX10_readsChange {ks : List Nat} (hk : ∀ k ∈ [39, 2008, 2009, 2010, 2011], k ∈ ks) {m0 : zM} {v1 : Int32} {v2 : Int32} {v3 : Int32} {mm : zM} (h : FS ks m0 mm) : Fr (fun o => FS ks m0 o) (fX10_readsChange v1 v2 v3 mm) := by
  unfold fX10_readsChange
  exact (Fr_bind (frX10_next (fun k h9 => hk k (zss (by decide) k h9)) h) (fun x1 h_x1 => (Fr_ite (Fr_ite (Fr_bind (frX10_fails (fun k h9 => hk k (zss (by decide) k h9)) h_x1) (fun x17 h_x17 => (frX10_readsChange_J24 (fun k h9 => hk k (zss (by decide) k h9)) h_x17))) (frX10_readsChange_J24 (fun k h9 => hk k (zss (by decide) k h9)) h_x1)) (Fr_bind (frX10_letter (fun k h9 => hk k (zss (by decide) k h9)) h_x1) (fun x2 h_x2 => (Fr_b0 (fun x3 => (Fr_ite (frX10_readsChange_J118 (fun k h9 => hk k (zss (by decide) k h9)) h_x2) (Fr_b0 (fun x10 => (Fr_ite (frX10_readsChange_J118 (fun k h9 => hk k (zss (by decide) k h9)) h_x2) (Fr_bind (frX10_fails (fun k h9 => hk k (zss (by decide) k h9)) h_x2) (fun x11 h_x11 => (frX10_readsChange_J140 (fun k h9 => hk k (zss (by decide) k h9)) h_x11))))))))))))))
theorem frX10_readsUses_J155 {ks : List Nat} (hk : ∀ k ∈ [2008], k ∈ ks) {m0 : zM} {v1 : Int32} {v2 : Int32} {mm : zM} (h : FS ks m0 mm) : Fr (Sum.elim (fun o => FS ks m0 o.2) (Sum.elim (fun o => FS ks m0 o) (fun o => FS ks m0 o))) (fX10_readsUses_J155 v1 v2 mm) := by
  unfold fX10_readsUses_J155
  exact (Fr_b0 (fun x6 => (Fr_ite (Fr_some h) (Fr_bind (frX10_isCapital (fun k h9 => hk k (zss (by decide) k h9)) h) (fun x7 h_x7 => (Fr_ite (Fr_some h_x7) (Fr_some h_x7)))))))
theorem frX10_readsUses_L103 {ks : List Nat} (hk : ∀ k ∈ [39, 2008, 2009, 2010, 2011], k ∈ ks) {m0 : zM} {v1 : Int32} {v2 : Int32} {v5 : Int32} {s : (Int32 × Int32 × zM)} (h : FS ks m0 s.2.2) : Fr (Sum.elim (fun o => FS ks m0 o.2.2) (Sum.elim (fun o => FS ks m0 o) (fun _ => True))) (fX10_readsUses_L103 v1 v2 v5 s) := by
  unfold fX10_readsUses_L103
  exact (Fr_ite (Fr_some h) (Fr_bind (frX10_readsChange (fun k h9 => hk k (zss (by decide) k h9)) h) (fun x8 h_x8 => (Fr_b0 (fun x9 => (Fr_ite (Fr_some h_x8) (Fr_bind (frX10_next (fun k h9 => hk k (zss (by decide) k h9)) h_x8) (fun x10 h_x10 => (Fr_ite (Fr_some h_x10) (Fr_some h_x10))))))))))
theorem frX10_readsUses_L10 {ks : List Nat} (hk : ∀ k ∈ [39, 2008, 2009, 2010, 2011], k ∈ ks) {m0 : zM} {v1 : Int32} {v2 : Int32} {s : (Int32 × zM)} (h : FS ks m0 s.2) : Fr (Sum.elim (fun o => FS ks m0 o.2) (Sum.elim (fun o => FS ks m0 o) (fun o => FS ks m0 o))) (fX10_readsUses_L10 v1 v2 s) := by
  unfold fX10_readsUses_L10
  exact (Fr_ite (Fr_some h) (Fr_b0 (fun x1 => (Fr_zob (Fr_bind (frX10_named (fun k h9 => hk k (zss (by decide) k h9)) h) (fun x2 h_x2 => (Fr_b0 (fun x3 => (Fr_ite (Fr_some h_x2) (Fr_zob (Fr_b0 (fun x4 => (Fr_zob (Fr_zob (Fr_zob (Fr_zob (Fr_bind (frX10_takesSign (fun k h9 => hk k (zss (by decide) k h9)) (FS_wa (by decide) (hk _ (by decide)) (FS_wa (by decide) (hk _ (by decide)) (FS_wa (by decide) (hk _ (by decide)) h_x2)))) (fun x5 h_x5 => (Fr_ite (frX10_readsUses_J155 (fun k h9 => hk k (zss (by decide) k h9)) h_x5) (Fr_lc (pS := (fun o => FS ks m0 o.2.2)) (pE := (fun o => FS ks m0 o)) (pR := (fun _ => True)) (fun s hs => frX10_readsUses_L103 (fun k h9 => hk k (zss (by decide) k h9)) hs) (FS_wf (by decide) (hk _ (by decide)) h_x5) (fun y11 h_y11 => (Fr_bind (frX10_must (fun k h9 => hk k (zss (by decide) k h9)) h_y11) (fun x13 h_x13 => (frX10_readsUses_J155 (fun k h9 => hk k (zss (by decide) k h9)) h_x13)))) (fun r12 h_r12 => (Fr_el r12))))))))))))))))))))))
theorem frX10_readsUses {ks : List Nat} (hk : ∀ k ∈ [39, 2008, 2009, 2010, 2011], k ∈ ks) {m0 : zM} {v1 : Int32} {mm : zM} (h : FS ks m0 mm) : Fr (fun o => FS ks m0 o) (fX10_readsUses v1 mm) := by
  unfold fX10_readsUses
  exact (Fr_lc (pS := (fun o => FS ks m0 o.2)) (pE := (fun o => FS ks m0 o)) (pR := (fun o => FS ks m0 o)) (fun s hs => frX10_readsUses_L10 (fun k h9 => hk k (zss (by decide) k h9)) hs) h (fun y15 h_y15 => (Fr_some h_y15)) (fun r16 h_r16 => (Fr_some h_r16)))
theorem frX10_readsParents_L2 {ks : List Nat} (hk : ∀ k ∈ [39, 2008, 2009], k ∈ ks) {m0 : zM} {v1 : Int32} {s : (Int32 × zM)} (h : FS ks m0 s.2) : Fr (Sum.elim (fun o => FS ks m0 o.2) (Sum.elim (fun o => FS ks m0 o) (fun _ => True))) (fX10_readsParents_L2 v1 s) := by
  unfold fX10_readsParents_L2
  exact (Fr_ite (Fr_some h) (Fr_zob (Fr_bind (frX10_named (fun k h9 => hk k (zss (by decide) k h9)) h) (fun x1 h_x1 => (Fr_b0 (fun x2 => (Fr_ite (Fr_some h_x1) (Fr_zob (Fr_zob (Fr_zob (Fr_zob (Fr_bind (frX10_isCapital (fun k h9 => hk k (zss (by decide) k h9)) (FS_wa (by decide) (hk _ (by decide)) (FS_wa (by decide) (hk _ (by decide)) h_x1))) (fun x3 h_x3 => (Fr_some h_x3))))))))))))))
theorem frX10_readsParents {ks : List Nat} (hk : ∀ k ∈ [39, 2008, 2009], k ∈ ks) {m0 : zM} {v1 : Int32} {mm : zM} (h : FS ks m0 mm) : Fr (fun o => FS ks m0 o) (fX10_readsParents v1 mm) := by
  unfold fX10_readsParents
  exact (Fr_lc (pS := (fun o => FS ks m0 o.2)) (pE := (fun o => FS ks m0 o)) (pR := (fun _ => True)) (fun s hs => frX10_readsParents_L2 (fun k h9 => hk k (zss (by decide) k h9)) hs) h (fun y4 h_y4 => (Fr_some h_y4)) (fun r5 h_r5 => (Fr_el r5)))
theorem frX10_readsUnit_J72 {ks : List Nat} (hk : ∀ k ∈ [2009], k ∈ ks) {m0 : zM} {mm : zM} (h : FS ks m0 mm) : Fr (fun o => FS ks m0 o) (fX10_readsUnit_J72 mm) := by
  unfold fX10_readsUnit_J72
  exact (Fr_bind (frX10_fails (fun k h9 => hk k (zss (by decide) k h9)) h) (fun x4 h_x4 => (Fr_some h_x4)))
theorem frX10_readsUnit_L125 {ks : List Nat} (hk : ∀ k ∈ [39], k ∈ ks) {m0 : zM} {v2 : Int32} {v3 : Int32} {v4 : Int32} {s : (Int32 × zM)} (h : FS ks m0 s.2) : Fr (Sum.elim (fun o => FS ks m0 o.2) (Sum.elim (fun o => FS ks m0 o) (fun _ => True))) (fX10_readsUnit_L125 v2 v3 v4 s) := by
  unfold fX10_readsUnit_L125
  exact (Fr_ite (Fr_some h) (Fr_zob (Fr_some (FS_wa (by decide) (hk _ (by decide)) h))))
theorem frX10_readsUnit_J243 {ks : List Nat} (hk : ∀ k ∈ [39], k ∈ ks) {m0 : zM} {mm : zM} (h : FS ks m0 mm) : Fr (fun o => FS ks m0 o) (fX10_readsUnit_J243 mm) := by
  unfold fX10_readsUnit_J243
  exact (Fr_some (FS_wa (by decide) (hk _ (by decide)) h))
theorem frX10_readsUnit_J229 {ks : List Nat} (hk : ∀ k ∈ [39, 2008, 2009, 2010], k ∈ ks) {m0 : zM} {v3 : Int32} {mm : zM} (h : FS ks m0 mm) : Fr (fun o => FS ks m0 o) (fX10_readsUnit_J229 v3 mm) := by
  unfold fX10_readsUnit_J229
  exact (Fr_bind (frX10_takesSign (fun k h9 => hk k (zss (by decide) k h9)) h) (fun x13 h_x13 => (Fr_ite (frX10_readsUnit_J243 (fun k h9 => hk k (zss (by decide) k h9)) h_x13) (Fr_bind (frX10_readsOwns (fun k h9 => hk k (zss (by decide) k h9)) h_x13) (fun x14 h_x14 => (frX10_readsUnit_J243 (fun k h9 => hk k (zss (by decide) k h9)) h_x14))))))
theorem frX10_readsUnit_J215 {ks : List Nat} (hk : ∀ k ∈ [39, 2008, 2009, 2010, 2011], k ∈ ks) {m0 : zM} {v3 : Int32} {mm : zM} (h : FS ks m0 mm) : Fr (fun o => FS ks m0 o) (fX10_readsUnit_J215 v3 mm) := by
  unfold fX10_readsUnit_J215
  exact (Fr_bind (frX10_takes (fun k h9 => hk k (zss (by decide) k h9)) h) (fun x12 h_x12 => (Fr_ite (frX10_readsUnit_J229 (fun k h9 => hk k (zss (by decide) k h9)) h_x12) (Fr_bind (frX10_readsUses (fun k h9 => hk k (zss (by decide) k h9)) h_x12) (fun x15 h_x15 => (frX10_readsUnit_J229 (fun k h9 => hk k (zss (by decide) k h9)) h_x15))))))
theorem frX10_readsUnit_J166 {ks : List Nat} (hk : ∀ k ∈ [39, 2008, 2009, 2010, 2011], k ∈ ks) {m0 : zM} {v2 : Int32} {v3 : Int32} {v4 : Int32} {s0 : Int32} {s1 : Int32} {mm : zM} (h : FS ks m0 mm) : Fr (fun o => FS ks m0 o) (fX10_readsUnit_J166 v2 v3 v4 s0 s1 mm) := by
  unfold fX10_readsUnit_J166
  exact (Fr_b0 (fun x10 => (Fr_zob (Fr_b0 (fun x11 => (Fr_zob (Fr_ite (frX10_readsUnit_J215 (fun k h9 => hk k (zss (by decide) k h9)) (FS_wf (by decide) (hk _ (by decide)) (FS_wa (by decide) (hk _ (by decide)) (FS_wa (by decide) (hk _ (by decide)) h)))) (Fr_bind (frX10_takes (fun k h9 => hk k (zss (by decide) k h9)) (FS_wf (by decide) (hk _ (by decide)) (FS_wa (by decide) (hk _ (by decide)) (FS_wa (by decide) (hk _ (by decide)) h)))) (fun x16 h_x16 => (Fr_ite (frX10_readsUnit_J215 (fun k h9 => hk k (zss (by decide) k h9)) h_x16) (Fr_bind (frX10_readsParents (fun k h9 => hk k (zss (by decide) k h9)) h_x16) (fun x17 h_x17 => (frX10_readsUnit_J215 (fun k h9 => hk k (zss (by decide) k h9)) h_x17)))))))))))))
theorem frX10_readsUnit_J58 {ks : List Nat} (hk : ∀ k ∈ [39, 2008, 2009, 2010, 2011], k ∈ ks) {m0 : zM} {v2 : Int32} {mm : zM} (h : FS ks m0 mm) : Fr (fun o => FS ks m0 o) (fX10_readsUnit_J58 v2 mm) := by
  unfold fX10_readsUnit_J58
  exact (Fr_b0 (fun x3 => (Fr_ite (frX10_readsUnit_J72 (fun k h9 => hk k (zss (by decide) k h9)) h) (Fr_bind (frX10_isCapital (fun k h9 => hk k (zss (by decide) k h9)) h) (fun x5 h_x5 => (Fr_ite (frX10_readsUnit_J72 (fun k h9 => hk k (zss (by decide) k h9)) h_x5) (Fr_b0 (fun x6 => (Fr_b0 (fun x7 => (Fr_ite (Fr_lc (pS := (fun o => FS ks m0 o.2)) (pE := (fun o => FS ks m0 o)) (pR := (fun _ => True)) (fun s hs => frX10_readsUnit_L125 (fun k h9 => hk k (zss (by decide) k h9)) hs) h_x5 (fun y8 h_y8 => (Fr_ite (frX10_readsUnit_J166 (fun k h9 => hk k (zss (by decide) k h9)) h_y8) (frX10_readsUnit_J166 (fun k h9 => hk k (zss (by decide) k h9)) h_y8))) (fun r9 h_r9 => (Fr_el r9))) (Fr_bind (frX10_fails (fun k h9 => hk k (zss (by decide) k h9)) h_x5) (fun x19 h_x19 => (Fr_some h_x19))))))))))))))
theorem frX10_readsUnit_J39 {ks : List Nat} (hk : ∀ k ∈ [39, 2008, 2009, 2010, 2011], k ∈ ks) {m0 : zM} {v1 : Int32} {v2 : Int32} {mm : zM} (h : FS ks m0 mm) : Fr (fun o => FS ks m0 o) (fX10_readsUnit_J39 v1 v2 mm) := by
  unfold fX10_readsUnit_J39
  exact (Fr_ite (Fr_bind (frX10_fails (fun k h9 => hk k (zss (by decide) k h9)) h) (fun x20 h_x20 => (frX10_readsUnit_J58 (fun k h9 => hk k (zss (by decide) k h9)) h_x20))) (frX10_readsUnit_J58 (fun k h9 => hk k (zss (by decide) k h9)) h))
theorem frX10_readsUnit {ks : List Nat} (hk : ∀ k ∈ [39, 2008, 2009, 2010, 2011], k ∈ ks) {m0 : zM} {mm : zM} (h : FS ks m0 mm) : Fr (fun o => FS ks m0 o) (fX10_readsUnit mm) := by
  unfold fX10_readsUnit
  exact (Fr_bind (frX10_next (fun k h9 => hk k (zss (by decide) k h9)) h) (fun x1 h_x1 => (Fr_bind (frX10_takes (fun k h9 => hk k (zss (by decide) k h9)) h_x1) (fun x2 h_x2 => (Fr_ite (Fr_bind (frX10_takes (fun k h9 => hk k (zss (by decide) k h9)) h_x2) (fun x21 h_x21 => (Fr_ite (Fr_bind (frX10_fails (fun k h9 => hk k (zss (by decide) k h9)) h_x21) (fun x22 h_x22 => (frX10_readsUnit_J58 (fun k h9 => hk k (zss (by decide) k h9)) h_x22))) (frX10_readsUnit_J39 (fun k h9 => hk k (zss (by decide) k h9)) h_x21)))) (frX10_readsUnit_J39 (fun k h9 => hk k (zss (by decide) k h9)) h_x2))))))
theorem frX10_moves_39_38_L3 {ks : List Nat} (hk : ∀ k ∈ [38], k ∈ ks) {m0 : zM} {v1 : Int32} {v3 : Int32} {s : (Int32 × zM)} (h : FS ks m0 s.2) : Fr (Sum.elim (fun o => FS ks m0 o.2) (Sum.elim (fun o => FS ks m0 o) (fun _ => True))) (fX10_moves_39_38_L3 v1 v3 s) := by
  unfold fX10_moves_39_38_L3
  exact (Fr_ite (Fr_some h) (Fr_zob (Fr_zob (Fr_some (FS_wa (by decide) (hk _ (by decide)) h)))))
theorem frX10_moves_39_38 {ks : List Nat} (hk : ∀ k ∈ [38], k ∈ ks) {m0 : zM} {v1 : Int32} {v3 : Int32} {mm : zM} (h : FS ks m0 mm) : Fr (fun o => FS ks m0 o) (fX10_moves_39_38 v1 v3 mm) := by
  unfold fX10_moves_39_38
  exact (Fr_lc (pS := (fun o => FS ks m0 o.2)) (pE := (fun o => FS ks m0 o)) (pR := (fun _ => True)) (fun s hs => frX10_moves_39_38_L3 (fun k h9 => hk k (zss (by decide) k h9)) hs) h (fun y1 h_y1 => (Fr_some h_y1)) (fun r2 h_r2 => (Fr_el r2)))
theorem frX10_tell_L33 {ks : List Nat} (hk : ∀ k ∈ [39, 2008, 2009, 2010, 2011], k ∈ ks) {m0 : zM} {s : (Int32 × zM)} (h : FS ks m0 s.2) : Fr (Sum.elim (fun o => FS ks m0 o.2) (Sum.elim (fun o => FS ks m0 o) (fun _ => True))) (fX10_tell_L33 s) := by
  unfold fX10_tell_L33
  exact (Fr_ite (Fr_some h) (Fr_bind (frX10_readsUnit (fun k h9 => hk k (zss (by decide) k h9)) h) (fun x2 h_x2 => (Fr_bind (frX10_takesSign (fun k h9 => hk k (zss (by decide) k h9)) h_x2) (fun x3 h_x3 => (Fr_some h_x3))))))
theorem frX10_tell_J75 {ks : List Nat} (hk : ∀ k ∈ [38, 2005, 2007], k ∈ ks) {m0 : zM} {mm : zM} (h : FS ks m0 mm) : Fr (fun o => FS ks m0 o.2) (fX10_tell_J75 mm) := by
  unfold fX10_tell_J75
  exact (Fr_b0 (fun x7 => (Fr_ite (Fr_some (FS_wf (by decide) (hk _ (by decide)) h)) (Fr_bind (frX10_moves_39_38 (fun k h9 => hk k (zss (by decide) k h9)) (FS_wf (by decide) (hk _ (by decide)) h)) (fun x8 h_x8 => (Fr_some (FS_wf (by decide) (hk _ (by decide)) h_x8)))))))
theorem frX10_tell_J32 {ks : List Nat} (hk : ∀ k ∈ [38, 39, 2005, 2007, 2008, 2009, 2010, 2011], k ∈ ks) {m0 : zM} {s0 : Int32} {mm : zM} (h : FS ks m0 mm) : Fr (fun o => FS ks m0 o.2) (fX10_tell_J32 s0 mm) := by
  unfold fX10_tell_J32
  exact (Fr_lc (pS := (fun o => FS ks m0 o.2)) (pE := (fun o => FS ks m0 o)) (pR := (fun _ => True)) (fun s hs => frX10_tell_L33 (fun k h9 => hk k (zss (by decide) k h9)) hs) h (fun y4 h_y4 => (Fr_b0 (fun x6 => (Fr_ite (frX10_tell_J75 (fun k h9 => hk k (zss (by decide) k h9)) h_y4) (Fr_bind (frX10_next (fun k h9 => hk k (zss (by decide) k h9)) h_y4) (fun x9 h_x9 => (Fr_ite (frX10_tell_J75 (fun k h9 => hk k (zss (by decide) k h9)) h_x9) (Fr_bind (frX10_fails (fun k h9 => hk k (zss (by decide) k h9)) h_x9) (fun x10 h_x10 => (frX10_tell_J75 (fun k h9 => hk k (zss (by decide) k h9)) h_x10)))))))))) (fun r5 h_r5 => (Fr_el r5)))
theorem frX10_tell {ks : List Nat} (hk : ∀ k ∈ [38, 39, 2005, 2007, 2008, 2009, 2010, 2011], k ∈ ks) {m0 : zM} {mm : zM} (h : FS ks m0 mm) : Fr (fun o => FS ks m0 o.2) (fX10_tell mm) := by
  unfold fX10_tell
  exact (Fr_bind (frX10_next (fun k h9 => hk k (zss (by decide) k h9)) (FS_wa (by decide) (hk _ (by decide)) (FS_wf (by decide) (hk _ (by decide)) (FS_wf (by decide) (hk _ (by decide)) h)))) (fun x1 h_x1 => (Fr_ite (frX10_tell_J32 (fun k h9 => hk k (zss (by decide) k h9)) h_x1) (frX10_tell_J32 (fun k h9 => hk k (zss (by decide) k h9)) h_x1))))
theorem frX10_moves_38_40_L3 {ks : List Nat} (hk : ∀ k ∈ [40], k ∈ ks) {m0 : zM} {v1 : Int32} {v3 : Int32} {s : (Int32 × zM)} (h : FS ks m0 s.2) : Fr (Sum.elim (fun o => FS ks m0 o.2) (Sum.elim (fun o => FS ks m0 o) (fun _ => True))) (fX10_moves_38_40_L3 v1 v3 s) := by
  unfold fX10_moves_38_40_L3
  exact (Fr_ite (Fr_some h) (Fr_zob (Fr_zob (Fr_some (FS_wa (by decide) (hk _ (by decide)) h)))))
theorem frX10_moves_38_40 {ks : List Nat} (hk : ∀ k ∈ [40], k ∈ ks) {m0 : zM} {v1 : Int32} {v3 : Int32} {mm : zM} (h : FS ks m0 mm) : Fr (fun o => FS ks m0 o) (fX10_moves_38_40 v1 v3 mm) := by
  unfold fX10_moves_38_40
  exact (Fr_lc (pS := (fun o => FS ks m0 o.2)) (pE := (fun o => FS ks m0 o)) (pR := (fun _ => True)) (fun s hs => frX10_moves_38_40_L3 (fun k h9 => hk k (zss (by decide) k h9)) hs) h (fun y1 h_y1 => (Fr_some h_y1)) (fun r2 h_r2 => (Fr_el r2)))
theorem frX10_keepsPast_J52 {ks : List Nat} (hk : ∀ k ∈ [40, 2005], k ∈ ks) {m0 : zM} {mm : zM} (h : FS ks m0 mm) : Fr (fun o => FS ks m0 o) (fX10_keepsPast_J52 mm) := by
  unfold fX10_keepsPast_J52
  exact (Fr_bind (frX10_moves_38_40 (fun k h9 => hk k (zss (by decide) k h9)) h) (fun x1 h_x1 => (Fr_some (FS_wf (by decide) (hk _ (by decide)) h_x1))))
theorem frX10_keepsPast_L13 {ks : List Nat} (hk : ∀ k ∈ [40], k ∈ ks) {m0 : zM} {s : (Int32 × zM)} (h : FS ks m0 s.2) : Fr (Sum.elim (fun o => FS ks m0 o.2) (Sum.elim (fun o => FS ks m0 o) (fun _ => True))) (fX10_keepsPast_L13 s) := by
  unfold fX10_keepsPast_L13
  exact (Fr_ite (Fr_some h) (Fr_zob (Fr_zob (Fr_some (FS_wa (by decide) (hk _ (by decide)) h)))))
theorem frX10_keepsPast {ks : List Nat} (hk : ∀ k ∈ [40, 2005], k ∈ ks) {m0 : zM} {mm : zM} (h : FS ks m0 mm) : Fr (fun o => FS ks m0 o) (fX10_keepsPast mm) := by
  unfold fX10_keepsPast
  exact (Fr_ite (Fr_lc (pS := (fun o => FS ks m0 o.2)) (pE := (fun o => FS ks m0 o)) (pR := (fun _ => True)) (fun s hs => frX10_keepsPast_L13 (fun k h9 => hk k (zss (by decide) k h9)) hs) h (fun y2 h_y2 => (frX10_keepsPast_J52 (fun k h9 => hk k (zss (by decide) k h9)) (FS_wf (by decide) (hk _ (by decide)) h_y2))) (fun r3 h_r3 => (Fr_el r3))) (frX10_keepsPast_J52 (fun k h9 => hk k (zss (by decide) k h9)) h))
theorem frX10_join {ks : List Nat} (hk : ∀ k ∈ [38, 40, 2005], k ∈ ks) {m0 : zM} {v1 : Int32} {v2 : Int32} {mm : zM} (h : FS ks m0 mm) : Fr (fun o => FS ks m0 o.2) (fX10_join v1 v2 mm) := by
  unfold fX10_join
  exact (Fr_b0 (fun x1 => (Fr_ite (Fr_some h) (Fr_b0 (fun x2 => (Fr_ite (Fr_some h) (Fr_ite (Fr_b0 (fun x3 => (Fr_ite (Fr_b0 (fun x4 => (Fr_ite (Fr_some h) (Fr_bind (frX10_keepsPast (fun k h9 => hk k (zss (by decide) k h9)) h) (fun x5 h_x5 => (Fr_zob (Fr_zob (Fr_b0 (fun x6 => (Fr_zob (Fr_b0 (fun x7 => (Fr_some (FS_wa (by decide) (hk _ (by decide)) (FS_wa (by decide) (hk _ (by decide)) h_x5))))))))))))))) (Fr_some h)))) (Fr_some h))))))))
theorem frX10_leave_L31 {ks : List Nat} (hk : ∀ k ∈ [38], k ∈ ks) {m0 : zM} {v1 : Int32} {s : (Int32 × zM)} (h : FS ks m0 s.2) : Fr (Sum.elim (fun o => FS ks m0 o.2) (Sum.elim (fun o => FS ks m0 o) (fun _ => True))) (fX10_leave_L31 v1 s) := by
  unfold fX10_leave_L31
  exact (Fr_b0 (fun x5 => (Fr_ite (Fr_some h) (Fr_b0 (fun x6 => (Fr_zob (Fr_some (FS_wa (by decide) (hk _ (by decide)) h))))))))
theorem frX10_leave {ks : List Nat} (hk : ∀ k ∈ [38, 40, 2005], k ∈ ks) {m0 : zM} {v1 : Int32} {v2 : Int32} {mm : zM} (h : FS ks m0 mm) : Fr (fun o => FS ks m0 o.2) (fX10_leave v1 v2 mm) := by
  unfold fX10_leave
  exact (Fr_b0 (fun x1 => (Fr_ite (Fr_some h) (Fr_b0 (fun x2 => (Fr_ite (Fr_some h) (Fr_bind (frX10_keepsPast (fun k h9 => hk k (zss (by decide) k h9)) h) (fun x3 h_x3 => (Fr_b0 (fun x4 => (Fr_lc (pS := (fun o => FS ks m0 o.2)) (pE := (fun o => FS ks m0 o)) (pR := (fun _ => True)) (fun s hs => frX10_leave_L31 (fun k h9 => hk k (zss (by decide) k h9)) hs) h_x3 (fun y7 h_y7 => (Fr_zob (Fr_zob (Fr_b0 (fun x9 => (Fr_some (FS_wa (by decide) (hk _ (by decide)) h_y7))))))) (fun r8 h_r8 => (Fr_el r8)))))))))))))
theorem frX10_turn_L40 {ks : List Nat} (hk : ∀ k ∈ [38], k ∈ ks) {m0 : zM} {v2 : Int32} {v3 : Int32} {s : (Int32 × zM)} (h : FS ks m0 s.2) : Fr (Sum.elim (fun o => FS ks m0 o.2) (Sum.elim (fun o => FS ks m0 o) (fun _ => True))) (fX10_turn_L40 v2 v3 s) := by
  unfold fX10_turn_L40
  exact (Fr_ite (Fr_some h) (Fr_zob (Fr_zob (Fr_zob (Fr_zob (Fr_some (FS_wa (by decide) (hk _ (by decide)) (FS_wa (by decide) (hk _ (by decide)) h))))))))
theorem frX10_turn {ks : List Nat} (hk : ∀ k ∈ [38, 40, 2005], k ∈ ks) {m0 : zM} {v1 : Int32} {mm : zM} (h : FS ks m0 mm) : Fr (fun o => FS ks m0 o.2) (fX10_turn v1 mm) := by
  unfold fX10_turn
  exact (Fr_b0 (fun x1 => (Fr_ite (Fr_some h) (Fr_b0 (fun x2 => (Fr_ite (Fr_bind (frX10_keepsPast (fun k h9 => hk k (zss (by decide) k h9)) h) (fun x3 h_x3 => (Fr_lc (pS := (fun o => FS ks m0 o.2)) (pE := (fun o => FS ks m0 o)) (pR := (fun _ => True)) (fun s hs => frX10_turn_L40 (fun k h9 => hk k (zss (by decide) k h9)) hs) h_x3 (fun y4 h_y4 => (Fr_some h_y4)) (fun r5 h_r5 => (Fr_el r5))))) (Fr_some h)))))))
theorem frX10_tells_J194 {ks : List Nat} (hk : ∀ k ∈ ([] : List Nat), k ∈ ks) {m0 : zM} {s0 : Int32} {mm : zM} (h : FS ks m0 mm) : Fr (fun o => FS ks m0 o.2) (fX10_tells_J194 s0 mm) := by
  unfold fX10_tells_J194
  exact (Fr_b0 (fun x4 => (Fr_some h)))
theorem frX10_tells_J182 {ks : List Nat} (hk : ∀ k ∈ [38], k ∈ ks) {m0 : zM} {v4 : Int32} {s0 : Int32} {s1 : Int32} {mm : zM} (h : FS ks m0 mm) : Fr (fun o => FS ks m0 o.2) (fX10_tells_J182 v4 s0 s1 mm) := by
  unfold fX10_tells_J182
  exact (Fr_zob (Fr_ite (frX10_tells_J194 (fun k h9 => by cases h9) (FS_wa (by decide) (hk _ (by decide)) h)) (frX10_tells_J194 (fun k h9 => by cases h9) (FS_wa (by decide) (hk _ (by decide)) h))))
theorem frX10_tells_J163 {ks : List Nat} (hk : ∀ k ∈ [38], k ∈ ks) {m0 : zM} {v3 : Int32} {v4 : Int32} {v5 : Int32} {s0 : Int32} {s1 : Int32} {mm : zM} (h : FS ks m0 mm) : Fr (fun o => FS ks m0 o.2) (fX10_tells_J163 v3 v4 v5 s0 s1 mm) := by
  unfold fX10_tells_J163
  exact (Fr_zob (Fr_ite (frX10_tells_J182 (fun k h9 => hk k (zss (by decide) k h9)) (FS_wa (by decide) (hk _ (by decide)) h)) (frX10_tells_J182 (fun k h9 => hk k (zss (by decide) k h9)) (FS_wa (by decide) (hk _ (by decide)) h))))
theorem frX10_tells_J145 {ks : List Nat} (hk : ∀ k ∈ [38], k ∈ ks) {m0 : zM} {v3 : Int32} {v4 : Int32} {v5 : Int32} {mm : zM} (h : FS ks m0 mm) : Fr (fun o => FS ks m0 o.2) (fX10_tells_J145 v3 v4 v5 mm) := by
  unfold fX10_tells_J145
  exact (Fr_ite (frX10_tells_J163 (fun k h9 => hk k (zss (by decide) k h9)) h) (frX10_tells_J163 (fun k h9 => hk k (zss (by decide) k h9)) h))
theorem frX10_tells_J100 {ks : List Nat} (hk : ∀ k ∈ [38, 40, 2005], k ∈ ks) {m0 : zM} {v1 : Int32} {v2 : Int32} {v3 : Int32} {v4 : Int32} {v5 : Int32} {mm : zM} (h : FS ks m0 mm) : Fr (fun o => FS ks m0 o.2) (fX10_tells_J100 v1 v2 v3 v4 v5 mm) := by
  unfold fX10_tells_J100
  exact (Fr_bind (frX10_keepsPast (fun k h9 => hk k (zss (by decide) k h9)) h) (fun x3 h_x3 => (Fr_ite (Fr_b0 (fun x5 => (Fr_b0 (fun x6 => (Fr_zob (Fr_zob (Fr_zob (frX10_tells_J145 (fun k h9 => hk k (zss (by decide) k h9)) (FS_wa (by decide) (hk _ (by decide)) (FS_wa (by decide) (hk _ (by decide)) h_x3)))))))))) (frX10_tells_J145 (fun k h9 => hk k (zss (by decide) k h9)) h_x3))))
theorem frX10_tells_J81 {ks : List Nat} (hk : ∀ k ∈ [38, 40, 2005], k ∈ ks) {m0 : zM} {v1 : Int32} {v2 : Int32} {v3 : Int32} {v4 : Int32} {v5 : Int32} {mm : zM} (h : FS ks m0 mm) : Fr (fun o => FS ks m0 o.2) (fX10_tells_J81 v1 v2 v3 v4 v5 mm) := by
  unfold fX10_tells_J81
  exact (Fr_ite (Fr_b0 (fun x7 => (Fr_ite (Fr_some h) (frX10_tells_J100 (fun k h9 => hk k (zss (by decide) k h9)) h)))) (frX10_tells_J100 (fun k h9 => hk k (zss (by decide) k h9)) h))
theorem frX10_tells_J24 {ks : List Nat} (hk : ∀ k ∈ [38, 40, 2005], k ∈ ks) {m0 : zM} {v1 : Int32} {v2 : Int32} {v3 : Int32} {v4 : Int32} {s0 : Int32} {mm : zM} (h : FS ks m0 mm) : Fr (fun o => FS ks m0 o.2) (fX10_tells_J24 v1 v2 v3 v4 s0 mm) := by
  unfold fX10_tells_J24
  exact (Fr_ite (frX10_tells_J81 (fun k h9 => hk k (zss (by decide) k h9)) h) (Fr_ite (Fr_zob (Fr_ite (Fr_some h) (frX10_tells_J81 (fun k h9 => hk k (zss (by decide) k h9)) h))) (Fr_zob (Fr_ite (Fr_zob (Fr_ite (Fr_some h) (frX10_tells_J81 (fun k h9 => hk k (zss (by decide) k h9)) h))) (frX10_tells_J81 (fun k h9 => hk k (zss (by decide) k h9)) h)))))
theorem frX10_tells {ks : List Nat} (hk : ∀ k ∈ [38, 40, 2005], k ∈ ks) {m0 : zM} {v1 : Int32} {v2 : Int32} {v3 : Int32} {mm : zM} (h : FS ks m0 mm) : Fr (fun o => FS ks m0 o.2) (fX10_tells v1 v2 v3 mm) := by
  unfold fX10_tells
  exact (Fr_b0 (fun x1 => (Fr_ite (frX10_tells_J24 (fun k h9 => hk k (zss (by decide) k h9)) h) (Fr_b0 (fun x2 => (frX10_tells_J24 (fun k h9 => hk k (zss (by decide) k h9)) h))))))
theorem frX10_give {ks : List Nat} (hk : ∀ k ∈ [38, 40, 2005], k ∈ ks) {m0 : zM} {v1 : Int32} {v2 : Int32} {v3 : Int32} {mm : zM} (h : FS ks m0 mm) : Fr (fun o => FS ks m0 o.2) (fX10_give v1 v2 v3 mm) := by
  unfold fX10_give
  exact (Fr_b0 (fun x1 => (Fr_ite (Fr_some h) (Fr_b0 (fun x2 => (Fr_ite (Fr_some h) (Fr_b0 (fun x3 => (Fr_ite (Fr_some h) (Fr_bind (frX10_tells (fun k h9 => hk k (zss (by decide) k h9)) h) (fun x4 h_x4 => (Fr_some h_x4))))))))))))
theorem frX10_need {ks : List Nat} (hk : ∀ k ∈ [38, 40, 2005], k ∈ ks) {m0 : zM} {v1 : Int32} {v2 : Int32} {mm : zM} (h : FS ks m0 mm) : Fr (fun o => FS ks m0 o.2) (fX10_need v1 v2 mm) := by
  unfold fX10_need
  exact (Fr_b0 (fun x1 => (Fr_ite (Fr_some h) (Fr_b0 (fun x2 => (Fr_ite (Fr_some h) (Fr_bind (frX10_tells (fun k h9 => hk k (zss (by decide) k h9)) h) (fun x3 h_x3 => (Fr_some h_x3)))))))))
theorem frX10_take_L35 {ks : List Nat} (hk : ∀ k ∈ [38], k ∈ ks) {m0 : zM} {v1 : Int32} {s : (Int32 × zM)} (h : FS ks m0 s.2) : Fr (Sum.elim (fun o => FS ks m0 o.2) (Sum.elim (fun o => FS ks m0 o) (fun _ => True))) (fX10_take_L35 v1 s) := by
  unfold fX10_take_L35
  exact (Fr_b0 (fun x6 => (Fr_b0 (fun x7 => (Fr_ite (Fr_some h) (Fr_zob (Fr_zob (Fr_some (FS_wa (by decide) (hk _ (by decide)) h)))))))))
theorem frX10_take {ks : List Nat} (hk : ∀ k ∈ [38, 40, 2005], k ∈ ks) {m0 : zM} {v1 : Int32} {v2 : Int32} {mm : zM} (h : FS ks m0 mm) : Fr (fun o => FS ks m0 o.2) (fX10_take v1 v2 mm) := by
  unfold fX10_take
  exact (Fr_b0 (fun x1 => (Fr_ite (Fr_some h) (Fr_b0 (fun x2 => (Fr_ite (Fr_some h) (Fr_bind (frX10_keepsPast (fun k h9 => hk k (zss (by decide) k h9)) h) (fun x3 h_x3 => (Fr_b0 (fun x4 => (Fr_b0 (fun x5 => (Fr_lc (pS := (fun o => FS ks m0 o.2)) (pE := (fun o => FS ks m0 o)) (pR := (fun _ => True)) (fun s hs => frX10_take_L35 (fun k h9 => hk k (zss (by decide) k h9)) hs) h_x3 (fun y8 h_y8 => (Fr_zob (Fr_zob (Fr_b0 (fun x10 => (Fr_some (FS_wa (by decide) (hk _ (by decide)) h_y8))))))) (fun r9 h_r9 => (Fr_el r9)))))))))))))))
