theorem frX10_use {ks : List Nat} (hk : ∀ k ∈ [38, 40, 2005], k ∈ ks) {m0 : zM} {v1 : Int32} {v2 : Int32} {mm : zM} (h : FS ks m0 mm) : Fr (fun o => FS ks m0 o.2) (fX10_use v1 v2 mm) := by
  unfold fX10_use
  exact (Fr_b0 (fun x1 => (Fr_ite (Fr_some h) (Fr_b0 (fun x2 => (Fr_ite (Fr_some h) (Fr_b0 (fun x3 => (Fr_ite (Fr_some h) (Fr_ite (Fr_b0 (fun x4 => (Fr_ite (Fr_b0 (fun x5 => (Fr_ite (Fr_some h) (Fr_bind (frX10_keepsPast (fun k h9 => hk k (zss (by decide) k h9)) h) (fun x6 h_x6 => (Fr_b0 (fun x7 => (Fr_b0 (fun x8 => (Fr_zob (Fr_b0 (fun x9 => (Fr_b0 (fun x10 => (Fr_zob (Fr_zob (Fr_zob (Fr_b0 (fun x11 => (Fr_some (FS_wa (by decide) (hk _ (by decide)) (FS_wa (by decide) (hk _ (by decide)) (FS_wa (by decide) (hk _ (by decide)) h_x6))))))))))))))))))))))) (Fr_some h)))) (Fr_some h)))))))))))
theorem frX10_change_J221 {ks : List Nat} (hk : ∀ k ∈ [38], k ∈ ks) {m0 : zM} {v3 : Int32} {v4 : Int32} {v6 : Int32} {v7 : Int32} {mm : zM} (h : FS ks m0 mm) : Fr (fun o => FS ks m0 o.2) (fX10_change_J221 v3 v4 v6 v7 mm) := by
  unfold fX10_change_J221
  exact (Fr_zob (Fr_zob (Fr_zob (Fr_some (FS_wa (by decide) (hk _ (by decide)) (FS_wa (by decide) (hk _ (by decide)) h))))))
theorem frX10_change_L120 {ks : List Nat} (hk : ∀ k ∈ [38], k ∈ ks) {m0 : zM} {v6 : Int32} {s : (Int32 × zM)} (h : FS ks m0 s.2) : Fr (Sum.elim (fun o => FS ks m0 o.2) (Sum.elim (fun o => FS ks m0 o) (fun _ => True))) (fX10_change_L120 v6 s) := by
  unfold fX10_change_L120
  exact (Fr_zob (Fr_ite (Fr_some h) (Fr_zob (Fr_zob (Fr_some (FS_wa (by decide) (hk _ (by decide)) h))))))
theorem frX10_change_J106 {ks : List Nat} (hk : ∀ k ∈ [38, 40, 2005], k ∈ ks) {m0 : zM} {v3 : Int32} {v4 : Int32} {v6 : Int32} {v7 : Int32} {mm : zM} (h : FS ks m0 mm) : Fr (fun o => FS ks m0 o.2) (fX10_change_J106 v3 v4 v6 v7 mm) := by
  unfold fX10_change_J106
  exact (Fr_bind (frX10_keepsPast (fun k h9 => hk k (zss (by decide) k h9)) h) (fun x9 h_x9 => (Fr_ite (Fr_lc (pS := (fun o => FS ks m0 o.2)) (pE := (fun o => FS ks m0 o)) (pR := (fun _ => True)) (fun s hs => frX10_change_L120 (fun k h9 => hk k (zss (by decide) k h9)) hs) h_x9 (fun y10 h_y10 => (Fr_zob (Fr_zob (Fr_zob (Fr_some (FS_wa (by decide) (hk _ (by decide)) h_y10)))))) (fun r11 h_r11 => (Fr_el r11))) (Fr_ite (Fr_zob (Fr_zob (Fr_zob (frX10_change_J221 (fun k h9 => hk k (zss (by decide) k h9)) (FS_wa (by decide) (hk _ (by decide)) h_x9))))) (frX10_change_J221 (fun k h9 => hk k (zss (by decide) k h9)) h_x9)))))
theorem frX10_change {ks : List Nat} (hk : ∀ k ∈ [38, 40, 2005], k ∈ ks) {m0 : zM} {v1 : Int32} {v2 : Int32} {v3 : Int32} {v4 : Int32} {mm : zM} (h : FS ks m0 mm) : Fr (fun o => FS ks m0 o.2) (fX10_change v1 v2 v3 v4 mm) := by
  unfold fX10_change
  exact (Fr_b0 (fun x1 => (Fr_ite (Fr_some h) (Fr_b0 (fun x2 => (Fr_ite (Fr_some h) (Fr_b0 (fun x3 => (Fr_ite (Fr_some h) (Fr_b0 (fun x4 => (Fr_ite (Fr_some h) (Fr_b0 (fun x5 => (Fr_b0 (fun x6 => (Fr_b0 (fun x7 => (Fr_ite (Fr_some h) (Fr_b0 (fun x8 => (Fr_ite (Fr_zob (Fr_ite (Fr_some h) (frX10_change_J106 (fun k h9 => hk k (zss (by decide) k h9)) h))) (frX10_change_J106 (fun k h9 => hk k (zss (by decide) k h9)) h)))))))))))))))))))))))
theorem frX10_moves_40_38_L3 {ks : List Nat} (hk : ∀ k ∈ [38], k ∈ ks) {m0 : zM} {v1 : Int32} {v3 : Int32} {s : (Int32 × zM)} (h : FS ks m0 s.2) : Fr (Sum.elim (fun o => FS ks m0 o.2) (Sum.elim (fun o => FS ks m0 o) (fun _ => True))) (fX10_moves_40_38_L3 v1 v3 s) := by
  unfold fX10_moves_40_38_L3
  exact (Fr_ite (Fr_some h) (Fr_zob (Fr_zob (Fr_some (FS_wa (by decide) (hk _ (by decide)) h)))))
theorem frX10_moves_40_38 {ks : List Nat} (hk : ∀ k ∈ [38], k ∈ ks) {m0 : zM} {v1 : Int32} {v3 : Int32} {mm : zM} (h : FS ks m0 mm) : Fr (fun o => FS ks m0 o) (fX10_moves_40_38 v1 v3 mm) := by
  unfold fX10_moves_40_38
  exact (Fr_lc (pS := (fun o => FS ks m0 o.2)) (pE := (fun o => FS ks m0 o)) (pR := (fun _ => True)) (fun s hs => frX10_moves_40_38_L3 (fun k h9 => hk k (zss (by decide) k h9)) hs) h (fun y1 h_y1 => (Fr_some h_y1)) (fun r2 h_r2 => (Fr_el r2)))
theorem frX10_undo {ks : List Nat} (hk : ∀ k ∈ [38, 2005], k ∈ ks) {m0 : zM} {mm : zM} (h : FS ks m0 mm) : Fr (fun o => FS ks m0 o.2) (fX10_undo mm) := by
  unfold fX10_undo
  exact (Fr_ite (Fr_some h) (Fr_bind (frX10_moves_40_38 (fun k h9 => hk k (zss (by decide) k h9)) (FS_wf (by decide) (hk _ (by decide)) h)) (fun x1 h_x1 => (Fr_some h_x1))))
theorem frX10_moves_38_41_L3 {ks : List Nat} (hk : ∀ k ∈ [41], k ∈ ks) {m0 : zM} {v1 : Int32} {v3 : Int32} {s : (Int32 × zM)} (h : FS ks m0 s.2) : Fr (Sum.elim (fun o => FS ks m0 o.2) (Sum.elim (fun o => FS ks m0 o) (fun _ => True))) (fX10_moves_38_41_L3 v1 v3 s) := by
  unfold fX10_moves_38_41_L3
  exact (Fr_ite (Fr_some h) (Fr_zob (Fr_zob (Fr_some (FS_wa (by decide) (hk _ (by decide)) h)))))
theorem frX10_moves_38_41 {ks : List Nat} (hk : ∀ k ∈ [41], k ∈ ks) {m0 : zM} {v1 : Int32} {v3 : Int32} {mm : zM} (h : FS ks m0 mm) : Fr (fun o => FS ks m0 o) (fX10_moves_38_41 v1 v3 mm) := by
  unfold fX10_moves_38_41
  exact (Fr_lc (pS := (fun o => FS ks m0 o.2)) (pE := (fun o => FS ks m0 o)) (pR := (fun _ => True)) (fun s hs => frX10_moves_38_41_L3 (fun k h9 => hk k (zss (by decide) k h9)) hs) h (fun y1 h_y1 => (Fr_some h_y1)) (fun r2 h_r2 => (Fr_el r2)))
theorem frX10_keep {ks : List Nat} (hk : ∀ k ∈ [41, 42], k ∈ ks) {m0 : zM} {v1 : Int32} {mm : zM} (h : FS ks m0 mm) : Fr (fun o => FS ks m0 o.2) (fX10_keep v1 mm) := by
  unfold fX10_keep
  exact (Fr_b0 (fun x1 => (Fr_ite (Fr_some h) (Fr_bind (frX10_moves_38_41 (fun k h9 => hk k (zss (by decide) k h9)) h) (fun x2 h_x2 => (Fr_zob (Fr_some (FS_wa (by decide) (hk _ (by decide)) h_x2))))))))
theorem frX10_moves_41_38_L3 {ks : List Nat} (hk : ∀ k ∈ [38], k ∈ ks) {m0 : zM} {v1 : Int32} {v3 : Int32} {s : (Int32 × zM)} (h : FS ks m0 s.2) : Fr (Sum.elim (fun o => FS ks m0 o.2) (Sum.elim (fun o => FS ks m0 o) (fun _ => True))) (fX10_moves_41_38_L3 v1 v3 s) := by
  unfold fX10_moves_41_38_L3
  exact (Fr_ite (Fr_some h) (Fr_zob (Fr_zob (Fr_some (FS_wa (by decide) (hk _ (by decide)) h)))))
theorem frX10_moves_41_38 {ks : List Nat} (hk : ∀ k ∈ [38], k ∈ ks) {m0 : zM} {v1 : Int32} {v3 : Int32} {mm : zM} (h : FS ks m0 mm) : Fr (fun o => FS ks m0 o) (fX10_moves_41_38 v1 v3 mm) := by
  unfold fX10_moves_41_38
  exact (Fr_lc (pS := (fun o => FS ks m0 o.2)) (pE := (fun o => FS ks m0 o)) (pR := (fun _ => True)) (fun s hs => frX10_moves_41_38_L3 (fun k h9 => hk k (zss (by decide) k h9)) hs) h (fun y1 h_y1 => (Fr_some h_y1)) (fun r2 h_r2 => (Fr_el r2)))
theorem frX10_back {ks : List Nat} (hk : ∀ k ∈ [38, 2005], k ∈ ks) {m0 : zM} {v1 : Int32} {mm : zM} (h : FS ks m0 mm) : Fr (fun o => FS ks m0 o.2) (fX10_back v1 mm) := by
  unfold fX10_back
  exact (Fr_b0 (fun x1 => (Fr_ite (Fr_some h) (Fr_zob (Fr_ite (Fr_some h) (Fr_bind (frX10_moves_41_38 (fun k h9 => hk k (zss (by decide) k h9)) h) (fun x2 h_x2 => (Fr_some (FS_wf (by decide) (hk _ (by decide)) h_x2)))))))))
theorem frX10_gives_J19 {ks : List Nat} (hk : ∀ k ∈ [44], k ∈ ks) {m0 : zM} {v1 : Int32} {v2 : Int32} {v3 : Int32} {mm : zM} (h : FS ks m0 mm) : Fr (fun o => FS ks m0 o) (fX10_gives_J19 v1 v2 v3 mm) := by
  unfold fX10_gives_J19
  exact (Fr_zob (Fr_zob (Fr_zob (Fr_some (FS_wa (by decide) (hk _ (by decide)) (FS_wa (by decide) (hk _ (by decide)) (FS_wa (by decide) (hk _ (by decide)) h)))))))
theorem frX10_gives_J74 {ks : List Nat} (hk : ∀ k ∈ [44], k ∈ ks) {m0 : zM} {v1 : Int32} {v2 : Int32} {v3 : Int32} {s0 : Int32} {mm : zM} (h : FS ks m0 mm) : Fr (fun o => FS ks m0 o) (fX10_gives_J74 v1 v2 v3 s0 mm) := by
  unfold fX10_gives_J74
  exact (Fr_ite (Fr_zob (Fr_ite (Fr_zob (Fr_zob (Fr_zob (Fr_some (FS_wa (by decide) (hk _ (by decide)) (FS_wa (by decide) (hk _ (by decide)) (FS_wa (by decide) (hk _ (by decide)) h))))))) (Fr_some h))) (Fr_some h))
theorem frX10_gives_J73 {ks : List Nat} (hk : ∀ k ∈ [44], k ∈ ks) {m0 : zM} {v1 : Int32} {v2 : Int32} {v3 : Int32} {mm : zM} (h : FS ks m0 mm) : Fr (fun o => FS ks m0 o) (fX10_gives_J73 v1 v2 v3 mm) := by
  unfold fX10_gives_J73
  exact (frX10_gives_J74 (fun k h9 => hk k (zss (by decide) k h9)) h)
theorem frX10_gives {ks : List Nat} (hk : ∀ k ∈ [44], k ∈ ks) {m0 : zM} {v1 : Int32} {v2 : Int32} {v3 : Int32} {mm : zM} (h : FS ks m0 mm) : Fr (fun o => FS ks m0 o) (fX10_gives v1 v2 v3 mm) := by
  unfold fX10_gives
  exact (Fr_zob (Fr_ite (frX10_gives_J19 (fun k h9 => hk k (zss (by decide) k h9)) h) (Fr_zob (Fr_ite (frX10_gives_J19 (fun k h9 => hk k (zss (by decide) k h9)) h) (Fr_zob (Fr_ite (Fr_zob (Fr_ite (frX10_gives_J74 (fun k h9 => hk k (zss (by decide) k h9)) h) (frX10_gives_J73 (fun k h9 => hk k (zss (by decide) k h9)) h))) (frX10_gives_J73 (fun k h9 => hk k (zss (by decide) k h9)) h)))))))
theorem frX10_givesAll_J67 {ks : List Nat} (hk : ∀ k ∈ [44], k ∈ ks) {m0 : zM} {v1 : Int32} {v2 : Int32} {mm : zM} (h : FS ks m0 mm) : Fr (fun o => FS ks m0 o) (fX10_givesAll_J67 v1 v2 mm) := by
  unfold fX10_givesAll_J67
  exact (Fr_zob (Fr_ite (Fr_zob (Fr_zob (Fr_bind (frX10_gives (fun k h9 => hk k (zss (by decide) k h9)) h) (fun x2 h_x2 => (Fr_some h_x2))))) (Fr_some h)))
theorem frX10_givesAll_J46 {ks : List Nat} (hk : ∀ k ∈ [44], k ∈ ks) {m0 : zM} {v1 : Int32} {v2 : Int32} {mm : zM} (h : FS ks m0 mm) : Fr (fun o => FS ks m0 o) (fX10_givesAll_J46 v1 v2 mm) := by
  unfold fX10_givesAll_J46
  exact (Fr_zob (Fr_zob (Fr_bind (frX10_gives (fun k h9 => hk k (zss (by decide) k h9)) h) (fun x1 h_x1 => (frX10_givesAll_J67 (fun k h9 => hk k (zss (by decide) k h9)) h_x1)))))
theorem frX10_givesAll_J26 {ks : List Nat} (hk : ∀ k ∈ [44], k ∈ ks) {m0 : zM} {v1 : Int32} {v2 : Int32} {mm : zM} (h : FS ks m0 mm) : Fr (fun o => FS ks m0 o) (fX10_givesAll_J26 v1 v2 mm) := by
  unfold fX10_givesAll_J26
  exact (Fr_zob (Fr_ite (frX10_givesAll_J46 (fun k h9 => hk k (zss (by decide) k h9)) h) (Fr_zob (Fr_ite (frX10_givesAll_J46 (fun k h9 => hk k (zss (by decide) k h9)) h) (frX10_givesAll_J67 (fun k h9 => hk k (zss (by decide) k h9)) h)))))
theorem frX10_givesAll {ks : List Nat} (hk : ∀ k ∈ [44], k ∈ ks) {m0 : zM} {v1 : Int32} {v2 : Int32} {mm : zM} (h : FS ks m0 mm) : Fr (fun o => FS ks m0 o) (fX10_givesAll v1 v2 mm) := by
  unfold fX10_givesAll
  exact (Fr_zob (Fr_ite (Fr_zob (Fr_ite (Fr_zob (frX10_givesAll_J26 (fun k h9 => hk k (zss (by decide) k h9)) (FS_wa (by decide) (hk _ (by decide)) h))) (frX10_givesAll_J26 (fun k h9 => hk k (zss (by decide) k h9)) h))) (frX10_givesAll_J26 (fun k h9 => hk k (zss (by decide) k h9)) h)))
theorem frX10_laysFlat_L2 {ks : List Nat} (hk : ∀ k ∈ [44], k ∈ ks) {m0 : zM} {v1 : Int32} {s : (Int32 × zM)} (h : FS ks m0 s.2) : Fr (Sum.elim (fun o => FS ks m0 o.2) (Sum.elim (fun o => FS ks m0 o) (fun _ => True))) (fX10_laysFlat_L2 v1 s) := by
  unfold fX10_laysFlat_L2
  exact (Fr_ite (Fr_some h) (Fr_b0 (fun x1 => (Fr_zob (Fr_some (FS_wa (by decide) (hk _ (by decide)) h))))))
theorem frX10_laysFlat_J72 {ks : List Nat} (hk : ∀ k ∈ [44], k ∈ ks) {m0 : zM} {v1 : Int32} {v2 : Int32} {s0 : Int32} {s1 : Int32} {mm : zM} (h : FS ks m0 mm) : Fr (Sum.elim (fun o => FS ks m0 o.2) (Sum.elim (fun o => FS ks m0 o) (fun _ => True))) (fX10_laysFlat_J72 v1 v2 s0 s1 mm) := by
  unfold fX10_laysFlat_J72
  exact (Fr_zob (Fr_some (FS_wa (by decide) (hk _ (by decide)) h)))
theorem frX10_laysFlat_L27 {ks : List Nat} (hk : ∀ k ∈ [44], k ∈ ks) {m0 : zM} {v1 : Int32} {s : (Int32 × zM)} (h : FS ks m0 s.2) : Fr (Sum.elim (fun o => FS ks m0 o.2) (Sum.elim (fun o => FS ks m0 o) (fun _ => True))) (fX10_laysFlat_L27 v1 s) := by
  unfold fX10_laysFlat_L27
  exact (Fr_b0 (fun x4 => (Fr_ite (Fr_some h) (Fr_b0 (fun x5 => (Fr_zob (Fr_b0 (fun x6 => (Fr_zob (Fr_ite (frX10_laysFlat_J72 (fun k h9 => hk k (zss (by decide) k h9)) h) (frX10_laysFlat_J72 (fun k h9 => hk k (zss (by decide) k h9)) h)))))))))))
theorem frX10_laysFlat_L92 {ks : List Nat} (hk : ∀ k ∈ [44], k ∈ ks) {m0 : zM} {v1 : Int32} {v2 : Int32} {s : (Int32 × zM)} (h : FS ks m0 s.2) : Fr (Sum.elim (fun o => FS ks m0 o.2) (Sum.elim (fun o => FS ks m0 o) (fun _ => True))) (fX10_laysFlat_L92 v1 v2 s) := by
  unfold fX10_laysFlat_L92
  exact (Fr_ite (Fr_some h) (Fr_b0 (fun x10 => (Fr_ite (Fr_some h) (Fr_b0 (fun x11 => (Fr_b0 (fun x12 => (Fr_zob (Fr_b0 (fun x13 => (Fr_bind (frX10_givesAll (fun k h9 => hk k (zss (by decide) k h9)) h) (fun x14 h_x14 => (Fr_some h_x14))))))))))))))
theorem frX10_laysFlat_L81 {ks : List Nat} (hk : ∀ k ∈ [44], k ∈ ks) {m0 : zM} {v1 : Int32} {s : (Int32 × zM)} (h : FS ks m0 s.2) : Fr (Sum.elim (fun o => FS ks m0 o.2) (Sum.elim (fun o => FS ks m0 o) (fun _ => True))) (fX10_laysFlat_L81 v1 s) := by
  unfold fX10_laysFlat_L81
  exact (Fr_b0 (fun x9 => (Fr_ite (Fr_some h) (Fr_lc (pS := (fun o => FS ks m0 o.2)) (pE := (fun o => FS ks m0 o)) (pR := (fun _ => True)) (fun s hs => frX10_laysFlat_L92 (fun k h9 => hk k (zss (by decide) k h9)) hs) h (fun y15 h_y15 => (Fr_some h_y15)) (fun r16 h_r16 => (Fr_el r16))))))
theorem frX10_laysFlat_L151 {ks : List Nat} (hk : ∀ k ∈ [44], k ∈ ks) {m0 : zM} {v1 : Int32} {s : (Int32 × zM)} (h : FS ks m0 s.2) : Fr (Sum.elim (fun o => FS ks m0 o.2) (Sum.elim (fun o => FS ks m0 o) (fun _ => True))) (fX10_laysFlat_L151 v1 s) := by
  unfold fX10_laysFlat_L151
  exact (Fr_b0 (fun x20 => (Fr_ite (Fr_some h) (Fr_b0 (fun x21 => (Fr_zob (Fr_ite (Fr_some h) (Fr_zob (Fr_b0 (fun x22 => (Fr_zob (Fr_zob (Fr_b0 (fun x23 => (Fr_zob (Fr_zob (Fr_b0 (fun x24 => (Fr_zob (Fr_zob (Fr_some (FS_wa (by decide) (hk _ (by decide)) (FS_wa (by decide) (hk _ (by decide)) (FS_wa (by decide) (hk _ (by decide)) h))))))))))))))))))))))))
theorem frX10_laysFlat {ks : List Nat} (hk : ∀ k ∈ [44], k ∈ ks) {m0 : zM} {v1 : Int32} {mm : zM} (h : FS ks m0 mm) : Fr (fun o => FS ks m0 o) (fX10_laysFlat v1 mm) := by
  unfold fX10_laysFlat
  exact (Fr_lc (pS := (fun o => FS ks m0 o.2)) (pE := (fun o => FS ks m0 o)) (pR := (fun _ => True)) (fun s hs => frX10_laysFlat_L2 (fun k h9 => hk k (zss (by decide) k h9)) hs) h (fun y2 h_y2 => (Fr_lc (pS := (fun o => FS ks m0 o.2)) (pE := (fun o => FS ks m0 o)) (pR := (fun _ => True)) (fun s hs => frX10_laysFlat_L27 (fun k h9 => hk k (zss (by decide) k h9)) hs) h_y2 (fun y7 h_y7 => (Fr_lc (pS := (fun o => FS ks m0 o.2)) (pE := (fun o => FS ks m0 o)) (pR := (fun _ => True)) (fun s hs => frX10_laysFlat_L81 (fun k h9 => hk k (zss (by decide) k h9)) hs) h_y7 (fun y18 h_y18 => (Fr_lc (pS := (fun o => FS ks m0 o.2)) (pE := (fun o => FS ks m0 o)) (pR := (fun _ => True)) (fun s hs => frX10_laysFlat_L151 (fun k h9 => hk k (zss (by decide) k h9)) hs) h_y18 (fun y25 h_y25 => (Fr_some h_y25)) (fun r26 h_r26 => (Fr_el r26)))) (fun r19 h_r19 => (Fr_el r19)))) (fun r8 h_r8 => (Fr_el r8)))) (fun r3 h_r3 => (Fr_el r3)))
theorem frX10_laysRing_L30 {ks : List Nat} (hk : ∀ k ∈ [47], k ∈ ks) {m0 : zM} {v1 : Int32} {v2 : Int32} {s : (Int32 × Int32 × Int32 × zM)} (h : FS ks m0 s.2.2.2) : Fr (Sum.elim (fun o => FS ks m0 o.2.2.2) (Sum.elim (fun o => FS ks m0 o.2.2) (fun _ => True))) (fX10_laysRing_L30 v1 v2 s) := by
  unfold fX10_laysRing_L30
  exact (Fr_ite (Fr_zob (Fr_b0 (fun x5 => (Fr_b0 (fun x6 => (Fr_lc0 (fun y7 => (Fr_some (FS_wa (by decide) (hk _ (by decide)) h))) (fun r8 => (Fr_el r8)))))))) (Fr_some h))
theorem frX10_laysRing_L115 {ks : List Nat} (hk : ∀ k ∈ [47], k ∈ ks) {m0 : zM} {v1 : Int32} {v4 : Int32} {v6 : Int32} {s : (Int32 × zM)} (h : FS ks m0 s.2) : Fr (Sum.elim (fun o => FS ks m0 o.2) (Sum.elim (fun o => FS ks m0 o) (fun _ => True))) (fX10_laysRing_L115 v1 v4 v6 s) := by
  unfold fX10_laysRing_L115
  exact (Fr_ite (Fr_some h) (Fr_zob (Fr_zob (Fr_some (FS_wa (by decide) (hk _ (by decide)) h)))))
theorem frX10_laysRing {ks : List Nat} (hk : ∀ k ∈ [47, 48], k ∈ ks) {m0 : zM} {v1 : Int32} {v2 : Int32} {mm : zM} (h : FS ks m0 mm) : Fr (fun o => FS ks m0 o) (fX10_laysRing v1 v2 mm) := by
  unfold fX10_laysRing
  exact (Fr_lc0 (fun y2 => (Fr_b0 (fun x4 => (Fr_lc (pS := (fun o => FS ks m0 o.2.2.2)) (pE := (fun o => FS ks m0 o.2.2)) (pR := (fun _ => True)) (fun s hs => frX10_laysRing_L30 (fun k h9 => hk k (zss (by decide) k h9)) hs) h (fun y10 h_y10 => (Fr_lc (pS := (fun o => FS ks m0 o.2)) (pE := (fun o => FS ks m0 o)) (pR := (fun _ => True)) (fun s hs => frX10_laysRing_L115 (fun k h9 => hk k (zss (by decide) k h9)) hs) h_y10 (fun y12 h_y12 => (Fr_zob (Fr_some (FS_wa (by decide) (hk _ (by decide)) h_y12)))) (fun r13 h_r13 => (Fr_el r13)))) (fun r11 h_r11 => (Fr_el r11)))))) (fun r3 => (Fr_el r3)))
theorem frX10_laysLine_L69 {ks : List Nat} (hk : ∀ k ∈ [49], k ∈ ks) {m0 : zM} {v1 : Int32} {v2 : Int32} {v3 : Int32} {v4 : Int32} {s : (Int32 × zM)} (h : FS ks m0 s.2) : Fr (Sum.elim (fun o => FS ks m0 o.2) (Sum.elim (fun o => FS ks m0 o) (fun _ => True))) (fX10_laysLine_L69 v1 v2 v3 v4 s) := by
  unfold fX10_laysLine_L69
  exact (Fr_zob (Fr_ite (Fr_some h) (Fr_zob (Fr_zob (Fr_some (FS_wa (by decide) (hk _ (by decide)) h))))))
theorem frX10_laysLine_L22 {ks : List Nat} (hk : ∀ k ∈ [49, 50, 51], k ∈ ks) {m0 : zM} {v1 : Int32} {v2 : Int32} {s : (Int32 × zM)} (h : FS ks m0 s.2) : Fr (Sum.elim (fun o => FS ks m0 o.2) (Sum.elim (fun o => FS ks m0 o) (fun o => FS ks m0 o))) (fX10_laysLine_L22 v1 v2 s) := by
  unfold fX10_laysLine_L22
  exact (Fr_ite (Fr_some h) (Fr_b0 (fun x2 => (Fr_zob (Fr_ite (Fr_some h) (Fr_zob (Fr_zob (Fr_zob (Fr_lc (pS := (fun o => FS ks m0 o.2)) (pE := (fun o => FS ks m0 o)) (pR := (fun _ => True)) (fun s hs => frX10_laysLine_L69 (fun k h9 => hk k (zss (by decide) k h9)) hs) (FS_wa (by decide) (hk _ (by decide)) (FS_wa (by decide) (hk _ (by decide)) h)) (fun y3 h_y3 => (Fr_zob (Fr_some (FS_wa (by decide) (hk _ (by decide)) h_y3)))) (fun r4 h_r4 => (Fr_el r4)))))))))))
theorem frX10_laysLine_J240 {ks : List Nat} (hk : ∀ k ∈ [51], k ∈ ks) {m0 : zM} {v1 : Int32} {v2 : Int32} {v3 : Int32} {v4 : Int32} {v5 : Int32} {s0 : Int32} {s1 : Int32} {s2 : Int32} {mm : zM} (h : FS ks m0 mm) : Fr (Sum.elim (fun o => FS ks m0 o.2) (Sum.elim (fun o => FS ks m0 o) (fun _ => True))) (fX10_laysLine_J240 v1 v2 v3 v4 v5 s0 s1 s2 mm) := by
  unfold fX10_laysLine_J240
  exact (Fr_b0 (fun x11 => (Fr_zob (Fr_some (FS_wa (by decide) (hk _ (by decide)) h)))))
theorem frX10_laysLine_L210 {ks : List Nat} (hk : ∀ k ∈ [51], k ∈ ks) {m0 : zM} {v1 : Int32} {v2 : Int32} {v3 : Int32} {v4 : Int32} {s : (Int32 × zM)} (h : FS ks m0 s.2) : Fr (Sum.elim (fun o => FS ks m0 o.2) (Sum.elim (fun o => FS ks m0 o) (fun _ => True))) (fX10_laysLine_L210 v1 v2 v3 v4 s) := by
  unfold fX10_laysLine_L210
  exact (Fr_ite (Fr_some h) (Fr_zob (Fr_b0 (fun x10 => (Fr_ite (frX10_laysLine_J240 (fun k h9 => hk k (zss (by decide) k h9)) h) (frX10_laysLine_J240 (fun k h9 => hk k (zss (by decide) k h9)) h))))))
theorem frX10_laysLine_L157 {ks : List Nat} (hk : ∀ k ∈ [45, 47, 48, 51], k ∈ ks) {m0 : zM} {v1 : Int32} {v2 : Int32} {s : (Int32 × zM)} (h : FS ks m0 s.2) : Fr (Sum.elim (fun o => FS ks m0 o.2) (Sum.elim (fun o => FS ks m0 o.2) (fun o => FS ks m0 o))) (fX10_laysLine_L157 v1 v2 s) := by
  unfold fX10_laysLine_L157
  exact (Fr_b0 (fun x8 => (Fr_ite (Fr_some h) (Fr_b0 (fun x9 => (Fr_ite (Fr_bind (frX10_laysRing (fun k h9 => hk k (zss (by decide) k h9)) h) (fun x15 h_x15 => (Fr_some h_x15))) (Fr_zob (Fr_lc (pS := (fun o => FS ks m0 o.2)) (pE := (fun o => FS ks m0 o)) (pR := (fun _ => True)) (fun s hs => frX10_laysLine_L210 (fun k h9 => hk k (zss (by decide) k h9)) hs) (FS_wa (by decide) (hk _ (by decide)) h) (fun y12 h_y12 => (Fr_some h_y12)) (fun r13 h_r13 => (Fr_el r13))))))))))
theorem frX10_laysLine {ks : List Nat} (hk : ∀ k ∈ [45, 46, 47, 48, 49, 50, 51], k ∈ ks) {m0 : zM} {v1 : Int32} {mm : zM} (h : FS ks m0 mm) : Fr (fun o => FS ks m0 o) (fX10_laysLine v1 mm) := by
  unfold fX10_laysLine
  exact (Fr_zob (Fr_zob (Fr_b0 (fun x1 => (Fr_lc (pS := (fun o => FS ks m0 o.2)) (pE := (fun o => FS ks m0 o)) (pR := (fun o => FS ks m0 o)) (fun s hs => frX10_laysLine_L22 (fun k h9 => hk k (zss (by decide) k h9)) hs) (FS_wa (by decide) (hk _ (by decide)) (FS_wa (by decide) (hk _ (by decide)) h)) (fun y6 h_y6 => (Fr_zob (Fr_zob (Fr_zob (Fr_lc (pS := (fun o => FS ks m0 o.2)) (pE := (fun o => FS ks m0 o.2)) (pR := (fun o => FS ks m0 o)) (fun s hs => frX10_laysLine_L157 (fun k h9 => hk k (zss (by decide) k h9)) hs) (FS_wa (by decide) (hk _ (by decide)) (FS_wa (by decide) (hk _ (by decide)) (FS_wa (by decide) (hk _ (by decide)) h_y6))) (fun y16 h_y16 => (Fr_zob (Fr_some (FS_wa (by decide) (hk _ (by decide)) h_y16)))) (fun r17 h_r17 => (Fr_some h_r17))))))) (fun r7 h_r7 => (Fr_some h_r7)))))))
theorem frX10_lays__L2 {ks : List Nat} (hk : ∀ k ∈ [44, 45, 46, 47, 48, 49, 50, 51], k ∈ ks) {m0 : zM} {s : (Int32 × zM)} (h : FS ks m0 s.2) : Fr (Sum.elim (fun o => FS ks m0 o.2) (Sum.elim (fun o => FS ks m0 o) (fun _ => True))) (fX10_lays__L2 s) := by
  unfold fX10_lays__L2
  exact (Fr_ite (Fr_some h) (Fr_bind (frX10_laysFlat (fun k h9 => hk k (zss (by decide) k h9)) h) (fun x1 h_x1 => (Fr_b0 (fun x2 => (Fr_ite (Fr_bind (frX10_laysLine (fun k h9 => hk k (zss (by decide) k h9)) h_x1) (fun x3 h_x3 => (Fr_some h_x3))) (Fr_zob (Fr_zob (Fr_some (FS_wa (by decide) (hk _ (by decide)) (FS_wa (by decide) (hk _ (by decide)) h_x1)))))))))))
theorem frX10_lays_ {ks : List Nat} (hk : ∀ k ∈ [44, 45, 46, 47, 48, 49, 50, 51], k ∈ ks) {m0 : zM} {mm : zM} (h : FS ks m0 mm) : Fr (fun o => FS ks m0 o) (fX10_lays_ mm) := by
  unfold fX10_lays_
  exact (Fr_lc (pS := (fun o => FS ks m0 o.2)) (pE := (fun o => FS ks m0 o)) (pR := (fun _ => True)) (fun s hs => frX10_lays__L2 (fun k h9 => hk k (zss (by decide) k h9)) hs) h (fun y4 h_y4 => (Fr_some h_y4)) (fun r5 h_r5 => (Fr_el r5)))
theorem frX10_unit {ks : List Nat} (hk : ∀ k ∈ [44, 45, 46, 47, 48, 49, 50, 51], k ∈ ks) {m0 : zM} {v1 : Int32} {v2 : Int32} {mm : zM} (h : FS ks m0 mm) : Fr (fun o => FS ks m0 o.2) (fX10_unit v1 v2 mm) := by
  unfold fX10_unit
  exact (Fr_b0 (fun x1 => (Fr_ite (Fr_some h) (Fr_bind (frX10_lays_ (fun k h9 => hk k (zss (by decide) k h9)) h) (fun x2 h_x2 => (Fr_ite (Fr_zob (Fr_some h_x2)) (Fr_ite (Fr_zob (Fr_some h_x2)) (Fr_ite (Fr_b0 (fun x10 => (Fr_some h_x2))) (Fr_ite (Fr_b0 (fun x9 => (Fr_some h_x2))) (Fr_ite (Fr_b0 (fun x8 => (Fr_some h_x2))) (Fr_ite (Fr_b0 (fun x7 => (Fr_some h_x2))) (Fr_ite (Fr_b0 (fun x6 => (Fr_some h_x2))) (Fr_ite (Fr_b0 (fun x5 => (Fr_some h_x2))) (Fr_ite (Fr_b0 (fun x4 => (Fr_some h_x2))) (Fr_ite (Fr_b0 (fun x3 => (Fr_some h_x2))) (Fr_some h_x2))))))))))))))))
theorem frX10_flat_J74 {ks : List Nat} (hk : ∀ k ∈ ([] : List Nat), k ∈ ks) {m0 : zM} {v1 : Int32} {v2 : Int32} {v3 : Int32} {s0 : Int32} {mm : zM} (h : FS ks m0 mm) : Fr (fun o => FS ks m0 o.2) (fX10_flat_J74 v1 v2 v3 s0 mm) := by
  unfold fX10_flat_J74
  exact (Fr_ite (Fr_some h) (Fr_b0 (fun x6 => (Fr_zob (Fr_some h)))))
theorem frX10_flat_J69 {ks : List Nat} (hk : ∀ k ∈ ([] : List Nat), k ∈ ks) {m0 : zM} {v1 : Int32} {v2 : Int32} {v3 : Int32} {mm : zM} (h : FS ks m0 mm) : Fr (fun o => FS ks m0 o.2) (fX10_flat_J69 v1 v2 v3 mm) := by
  unfold fX10_flat_J69
  exact (frX10_flat_J74 (fun k h9 => by cases h9) h)
theorem frX10_flat_J73 {ks : List Nat} (hk : ∀ k ∈ ([] : List Nat), k ∈ ks) {m0 : zM} {v1 : Int32} {v2 : Int32} {v3 : Int32} {mm : zM} (h : FS ks m0 mm) : Fr (fun o => FS ks m0 o.2) (fX10_flat_J73 v1 v2 v3 mm) := by
  unfold fX10_flat_J73
  exact (frX10_flat_J74 (fun k h9 => by cases h9) h)
theorem frX10_flat {ks : List Nat} (hk : ∀ k ∈ [44, 45, 46, 47, 48, 49, 50, 51], k ∈ ks) {m0 : zM} {v1 : Int32} {v2 : Int32} {v3 : Int32} {mm : zM} (h : FS ks m0 mm) : Fr (fun o => FS ks m0 o.2) (fX10_flat v1 v2 v3 mm) := by
  unfold fX10_flat
  exact (Fr_b0 (fun x1 => (Fr_ite (Fr_some h) (Fr_b0 (fun x2 => (Fr_ite (Fr_some h) (Fr_b0 (fun x3 => (Fr_ite (Fr_some h) (Fr_bind (frX10_lays_ (fun k h9 => hk k (zss (by decide) k h9)) h) (fun x4 h_x4 => (Fr_b0 (fun x5 => (Fr_ite (Fr_some h_x4) (Fr_ite (frX10_flat_J69 (fun k h9 => by cases h9) h_x4) (Fr_ite (frX10_flat_J69 (fun k h9 => by cases h9) h_x4) (Fr_ite (Fr_ite (frX10_flat_J73 (fun k h9 => by cases h9) h_x4) (frX10_flat_J69 (fun k h9 => by cases h9) h_x4)) (frX10_flat_J73 (fun k h9 => by cases h9) h_x4))))))))))))))))))
theorem frX10_line {ks : List Nat} (hk : ∀ k ∈ [44, 45, 46, 47, 48, 49, 50, 51], k ∈ ks) {m0 : zM} {v1 : Int32} {v2 : Int32} {mm : zM} (h : FS ks m0 mm) : Fr (fun o => FS ks m0 o.2) (fX10_line v1 v2 mm) := by
  unfold fX10_line
  exact (Fr_b0 (fun x1 => (Fr_ite (Fr_some h) (Fr_ite (Fr_bind (frX10_lays_ (fun k h9 => hk k (zss (by decide) k h9)) h) (fun x2 h_x2 => (Fr_ite (Fr_zob (Fr_some h_x2)) (Fr_zob (Fr_ite (Fr_some h_x2) (Fr_zob (Fr_some h_x2))))))) (Fr_some h)))))
theorem frX10_ring {ks : List Nat} (hk : ∀ k ∈ [44, 45, 46, 47, 48, 49, 50, 51], k ∈ ks) {m0 : zM} {v1 : Int32} {v2 : Int32} {mm : zM} (h : FS ks m0 mm) : Fr (fun o => FS ks m0 o.2) (fX10_ring v1 v2 mm) := by
  unfold fX10_ring
  exact (Fr_b0 (fun x1 => (Fr_ite (Fr_some h) (Fr_ite (Fr_bind (frX10_lays_ (fun k h9 => hk k (zss (by decide) k h9)) h) (fun x2 h_x2 => (Fr_ite (Fr_zob (Fr_some h_x2)) (Fr_zob (Fr_ite (Fr_some h_x2) (Fr_zob (Fr_some h_x2))))))) (Fr_some h)))))
theorem frX10_laysAhead_L2 {ks : List Nat} (hk : ∀ k ∈ [52], k ∈ ks) {m0 : zM} {v1 : Int32} {s : (Int32 × zM)} (h : FS ks m0 s.2) : Fr (Sum.elim (fun o => FS ks m0 o.2) (Sum.elim (fun o => FS ks m0 o) (fun _ => True))) (fX10_laysAhead_L2 v1 s) := by
  unfold fX10_laysAhead_L2
  exact (Fr_ite (Fr_some h) (Fr_zob (Fr_some (FS_wa (by decide) (hk _ (by decide)) h))))
theorem frX10_laysAhead_J101 {ks : List Nat} (hk : ∀ k ∈ [52], k ∈ ks) {m0 : zM} {v1 : Int32} {v2 : Int32} {v3 : Int32} {s0 : Int32} {s1 : Int32} {s2 : Int32} {mm : zM} (h : FS ks m0 mm) : Fr (Sum.elim (fun o => FS ks m0 o.2) (Sum.elim (fun o => FS ks m0 o) (fun _ => True))) (fX10_laysAhead_J101 v1 v2 v3 s0 s1 s2 mm) := by
  unfold fX10_laysAhead_J101
  exact (Fr_zob (Fr_some (FS_wa (by decide) (hk _ (by decide)) h)))
theorem frX10_laysAhead_L37 {ks : List Nat} (hk : ∀ k ∈ [52], k ∈ ks) {m0 : zM} {v1 : Int32} {v2 : Int32} {s : (Int32 × zM)} (h : FS ks m0 s.2) : Fr (Sum.elim (fun o => FS ks m0 o.2) (Sum.elim (fun o => FS ks m0 o) (fun _ => True))) (fX10_laysAhead_L37 v1 v2 s) := by
  unfold fX10_laysAhead_L37
  exact (Fr_b0 (fun x3 => (Fr_ite (Fr_some h) (Fr_b0 (fun x4 => (Fr_ite (Fr_some h) (Fr_b0 (fun x5 => (Fr_zob (Fr_zob (Fr_b0 (fun x6 => (Fr_zob (Fr_ite (frX10_laysAhead_J101 (fun k h9 => hk k (zss (by decide) k h9)) (FS_wa (by decide) (hk _ (by decide)) h)) (Fr_b0 (fun x7 => (frX10_laysAhead_J101 (fun k h9 => hk k (zss (by decide) k h9)) (FS_wa (by decide) (hk _ (by decide)) h))))))))))))))))))
theorem frX10_laysAhead_L23 {ks : List Nat} (hk : ∀ k ∈ [52], k ∈ ks) {m0 : zM} {v1 : Int32} {s : (Int32 × zM)} (h : FS ks m0 s.2) : Fr (Sum.elim (fun o => FS ks m0 o.2) (Sum.elim (fun o => FS ks m0 o) (fun _ => True))) (fX10_laysAhead_L23 v1 s) := by
  unfold fX10_laysAhead_L23
  exact (Fr_ite (Fr_some h) (Fr_lc (pS := (fun o => FS ks m0 o.2)) (pE := (fun o => FS ks m0 o)) (pR := (fun _ => True)) (fun s hs => frX10_laysAhead_L37 (fun k h9 => hk k (zss (by decide) k h9)) hs) h (fun y8 h_y8 => (Fr_some h_y8)) (fun r9 h_r9 => (Fr_el r9))))
theorem frX10_laysAhead {ks : List Nat} (hk : ∀ k ∈ [52], k ∈ ks) {m0 : zM} {v1 : Int32} {mm : zM} (h : FS ks m0 mm) : Fr (fun o => FS ks m0 o) (fX10_laysAhead v1 mm) := by
  unfold fX10_laysAhead
  exact (Fr_lc (pS := (fun o => FS ks m0 o.2)) (pE := (fun o => FS ks m0 o)) (pR := (fun _ => True)) (fun s hs => frX10_laysAhead_L2 (fun k h9 => hk k (zss (by decide) k h9)) hs) h (fun y1 h_y1 => (Fr_lc (pS := (fun o => FS ks m0 o.2)) (pE := (fun o => FS ks m0 o)) (pR := (fun _ => True)) (fun s hs => frX10_laysAhead_L23 (fun k h9 => hk k (zss (by decide) k h9)) hs) h_y1 (fun y11 h_y11 => (Fr_some h_y11)) (fun r12 h_r12 => (Fr_el r12)))) (fun r2 h_r2 => (Fr_el r2)))
theorem frX10_countsWays_L28 {ks : List Nat} (hk : ∀ k ∈ [53], k ∈ ks) {m0 : zM} {v1 : Int32} {v2 : Int32} {s : (Int32 × zM)} (h : FS ks m0 s.2) : Fr (Sum.elim (fun o => FS ks m0 o.2) (Sum.elim (fun o => FS ks m0 o) (fun _ => True))) (fX10_countsWays_L28 v1 v2 s) := by
  unfold fX10_countsWays_L28
  exact (Fr_ite (Fr_some h) (Fr_ite (Fr_b0 (fun x2 => (Fr_ite (Fr_some h) (Fr_zob (Fr_ite (Fr_zob (Fr_zob (Fr_zob (Fr_some (FS_wl (hk _ (by decide)) h))))) (Fr_some h)))))) (Fr_some h)))
theorem frX10_countsWays_L14 {ks : List Nat} (hk : ∀ k ∈ [53], k ∈ ks) {m0 : zM} {v1 : Int32} {s : (Int32 × zM)} (h : FS ks m0 s.2) : Fr (Sum.elim (fun o => FS ks m0 o.2) (Sum.elim (fun o => FS ks m0 o) (fun _ => True))) (fX10_countsWays_L14 v1 s) := by
  unfold fX10_countsWays_L14
  exact (Fr_ite (Fr_some h) (Fr_zob (Fr_lc (pS := (fun o => FS ks m0 o.2)) (pE := (fun o => FS ks m0 o)) (pR := (fun _ => True)) (fun s hs => frX10_countsWays_L28 (fun k h9 => hk k (zss (by decide) k h9)) hs) (FS_wl (hk _ (by decide)) h) (fun y3 h_y3 => (Fr_some h_y3)) (fun r4 h_r4 => (Fr_el r4)))))
theorem frX10_countsWays {ks : List Nat} (hk : ∀ k ∈ [52, 53], k ∈ ks) {m0 : zM} {v1 : Int32} {mm : zM} (h : FS ks m0 mm) : Fr (fun o => FS ks m0 o.2) (fX10_countsWays v1 mm) := by
  unfold fX10_countsWays
  exact (Fr_bind (frX10_laysAhead (fun k h9 => hk k (zss (by decide) k h9)) h) (fun x1 h_x1 => (Fr_lc (pS := (fun o => FS ks m0 o.2)) (pE := (fun o => FS ks m0 o)) (pR := (fun _ => True)) (fun s hs => frX10_countsWays_L14 (fun k h9 => hk k (zss (by decide) k h9)) hs) (FS_wl (hk _ (by decide)) h_x1) (fun y6 h_y6 => (Fr_zob (Fr_some h_y6))) (fun r7 h_r7 => (Fr_el r7)))))
theorem frX10_orders {ks : List Nat} (hk : ∀ k ∈ [52, 53], k ∈ ks) {m0 : zM} {v1 : Int32} {mm : zM} (h : FS ks m0 mm) : Fr (fun o => FS ks m0 o.2) (fX10_orders v1 mm) := by
  unfold fX10_orders
  exact (Fr_b0 (fun x1 => (Fr_ite (Fr_some h) (Fr_b0 (fun x2 => (Fr_bind (frX10_countsWays (fun k h9 => hk k (zss (by decide) k h9)) h) (fun x3 h_x3 => (Fr_some h_x3))))))))
theorem frX10_first {ks : List Nat} (hk : ∀ k ∈ [52, 53], k ∈ ks) {m0 : zM} {v1 : Int32} {v2 : Int32} {mm : zM} (h : FS ks m0 mm) : Fr (fun o => FS ks m0 o.2) (fX10_first v1 v2 mm) := by
  unfold fX10_first
  exact (Fr_b0 (fun x1 => (Fr_ite (Fr_some h) (Fr_b0 (fun x2 => (Fr_b0 (fun x3 => (Fr_b0 (fun x4 => (Fr_ite (Fr_some h) (Fr_b0 (fun x5 => (Fr_bind (frX10_countsWays (fun k h9 => hk k (zss (by decide) k h9)) h) (fun x6 h_x6 => (Fr_ite (Fr_some h_x6) (Fr_b0 (fun x7 => (Fr_lc0 (fun y12 => (Fr_some h_x6)) (fun r13 => (Fr_el r13))))))))))))))))))))
theorem frX10_place {ks : List Nat} (hk : ∀ k ∈ [52, 53], k ∈ ks) {m0 : zM} {v1 : Int32} {v2 : Int32} {mm : zM} (h : FS ks m0 mm) : Fr (fun o => FS ks m0 o.2) (fX10_place v1 v2 mm) := by
  unfold fX10_place
  exact (Fr_b0 (fun x1 => (Fr_ite (Fr_some h) (Fr_b0 (fun x2 => (Fr_ite (Fr_some h) (Fr_b0 (fun x3 => (Fr_b0 (fun x4 => (Fr_ite (Fr_some h) (Fr_b0 (fun x5 => (Fr_bind (frX10_countsWays (fun k h9 => hk k (zss (by decide) k h9)) h) (fun x6 h_x6 => (Fr_ite (Fr_some h_x6) (Fr_b0 (fun x7 => (Fr_b0 (fun x8 => (Fr_b0 (fun x9 => (Fr_lc0 (fun y14 => (Fr_lc0 (fun y16 => (Fr_some h_x6)) (fun r17 => (Fr_el r17)))) (fun r15 => (Fr_el r15)))))))))))))))))))))))))
theorem frX10_ends {ks : List Nat} (hk : ∀ k ∈ [2023, 2027], k ∈ ks) {m0 : zM} {v1 : Int32} {v2 : Int32} {mm : zM} (h : FS ks m0 mm) : Fr (fun o => FS ks m0 o) (fX10_ends v1 v2 mm) := by
  unfold fX10_ends
  exact (Fr_some (FS_wf (by decide) (hk _ (by decide)) (FS_wf (by decide) (hk _ (by decide)) h)))
theorem frX10_works_L78 {ks : List Nat} (hk : ∀ k ∈ ([] : List Nat), k ∈ ks) {rc : Int32 → Int32 → Int32 → zM → Option (Int32 × zM)} {m0 : zM} (hrc : ∀ (a b c : Int32) (m : zM), FS ks m0 m → Fr (fun o => FS ks m0 o.2) (rc a b c m)) {v2 : Int32} {v3 : Int32} {v4 : Int32} {v6 : Int32} {s : (Int32 × Int32 × zM)} (h : FS ks m0 s.2.2) : Fr (Sum.elim (fun o => FS ks m0 o.2.2) (Sum.elim (fun o => FS ks m0 o.2) (fun _ => True))) (fX10_works_L78 rc v2 v3 v4 v6 s) := by
  unfold fX10_works_L78
  exact (Fr_zob (Fr_ite (Fr_some h) (Fr_ite (Fr_zob (Fr_ite (Fr_ite (Fr_bind (hrc _ _ _ _ h) (fun x6 h_x6 => (Fr_some h_x6))) (Fr_bind (hrc _ _ _ _ h) (fun x5 h_x5 => (Fr_some h_x5)))) (Fr_some h))) (Fr_some h))))
theorem frX10_works_J17 {ks : List Nat} (hk : ∀ k ∈ [2026, 2028], k ∈ ks) {rc : Int32 → Int32 → Int32 → zM → Option (Int32 × zM)} {m0 : zM} (hrc : ∀ (a b c : Int32) (m : zM), FS ks m0 m → Fr (fun o => FS ks m0 o.2) (rc a b c m)) {v1 : Int32} {v2 : Int32} {v3 : Int32} {v4 : Int32} {s0 : Int32} {mm : zM} (h : FS ks m0 mm) : Fr (fun o => FS ks m0 o.2) (fX10_works_J17 rc v1 v2 v3 v4 s0 mm) := by
  unfold fX10_works_J17
  exact (Fr_b0 (fun x1 => (Fr_zob (Fr_b0 (fun x2 => (Fr_zob (Fr_b0 (fun x3 => (Fr_b0 (fun x4 => (Fr_lc (pS := (fun o => FS ks m0 o.2.2)) (pE := (fun o => FS ks m0 o.2)) (pR := (fun _ => True)) (fun s hs => frX10_works_L78 (fun k h9 => by cases h9) hrc hs) (FS_wf (by decide) (hk _ (by decide)) (FS_wf (by decide) (hk _ (by decide)) h)) (fun y7 h_y7 => (Fr_some h_y7)) (fun r8 h_r8 => (Fr_el r8)))))))))))))
theorem frX10_works {ks : List Nat} (hk : ∀ k ∈ [2026, 2028], k ∈ ks) {rc : Int32 → Int32 → Int32 → zM → Option (Int32 × zM)} {m0 : zM} (hrc : ∀ (a b c : Int32) (m : zM), FS ks m0 m → Fr (fun o => FS ks m0 o.2) (rc a b c m)) {v1 : Int32} {v2 : Int32} {v3 : Int32} {v4 : Int32} {mm : zM} (h : FS ks m0 mm) : Fr (fun o => FS ks m0 o.2) (fX10_works rc v1 v2 v3 v4 mm) := by
  unfold fX10_works
  exact (Fr_ite (frX10_works_J17 (fun k h9 => hk k (zss (by decide) k h9)) hrc h) (frX10_works_J17 (fun k h9 => hk k (zss (by decide) k h9)) hrc h))
theorem frX10_calls_J15 {ks : List Nat} (hk : ∀ k ∈ [2023, 2027], k ∈ ks) {rc : Int32 → Int32 → Int32 → zM → Option (Int32 × zM)} {m0 : zM} (hrc : ∀ (a b c : Int32) (m : zM), FS ks m0 m → Fr (fun o => FS ks m0 o.2) (rc a b c m)) {v3 : Int32} {mm : zM} (h : FS ks m0 mm) : Fr (fun o => FS ks m0 o.2) (fX10_calls_J15 rc v3 mm) := by
  unfold fX10_calls_J15
  exact (Fr_bind (frX10_ends (fun k h9 => hk k (zss (by decide) k h9)) h) (fun x1 h_x1 => (Fr_some h_x1)))
theorem frX10_calls_J107 {ks : List Nat} (hk : ∀ k ∈ [2023, 2026, 2027, 2028], k ∈ ks) {rc : Int32 → Int32 → Int32 → zM → Option (Int32 × zM)} {m0 : zM} (hrc : ∀ (a b c : Int32) (m : zM), FS ks m0 m → Fr (fun o => FS ks m0 o.2) (rc a b c m)) {v1 : Int32} {v3 : Int32} {v5 : Int32} {v6 : Int32} {v7 : Int32} {s0 : Int32} {mm : zM} (h : FS ks m0 mm) : Fr (Sum.elim (fun o => FS ks m0 o.2.2) (Sum.elim (fun o => FS ks m0 o.2) (fun o => FS ks m0 o.2))) (fX10_calls_J107 rc v1 v3 v5 v6 v7 s0 mm) := by
  unfold fX10_calls_J107
  exact (Fr_ite (Fr_bind (frX10_ends (fun k h9 => hk k (zss (by decide) k h9)) h) (fun x4 h_x4 => (Fr_some h_x4))) (Fr_ite (Fr_bind (frX10_works (fun k h9 => hk k (zss (by decide) k h9)) hrc h) (fun x3 h_x3 => (Fr_some h_x3))) (Fr_some h)))
theorem frX10_calls_J102 {ks : List Nat} (hk : ∀ k ∈ [2023, 2026, 2027, 2028], k ∈ ks) {rc : Int32 → Int32 → Int32 → zM → Option (Int32 × zM)} {m0 : zM} (hrc : ∀ (a b c : Int32) (m : zM), FS ks m0 m → Fr (fun o => FS ks m0 o.2) (rc a b c m)) {v1 : Int32} {v3 : Int32} {v5 : Int32} {v6 : Int32} {v7 : Int32} {mm : zM} (h : FS ks m0 mm) : Fr (Sum.elim (fun o => FS ks m0 o.2.2) (Sum.elim (fun o => FS ks m0 o.2) (fun o => FS ks m0 o.2))) (fX10_calls_J102 rc v1 v3 v5 v6 v7 mm) := by
  unfold fX10_calls_J102
  exact (frX10_calls_J107 (fun k h9 => hk k (zss (by decide) k h9)) hrc h)
theorem frX10_calls_L51 {ks : List Nat} (hk : ∀ k ∈ [2023, 2026, 2027, 2028], k ∈ ks) {rc : Int32 → Int32 → Int32 → zM → Option (Int32 × zM)} {m0 : zM} (hrc : ∀ (a b c : Int32) (m : zM), FS ks m0 m → Fr (fun o => FS ks m0 o.2) (rc a b c m)) {v1 : Int32} {v3 : Int32} {s : (Int32 × Int32 × zM)} (h : FS ks m0 s.2.2) : Fr (Sum.elim (fun o => FS ks m0 o.2.2) (Sum.elim (fun o => FS ks m0 o.2) (fun o => FS ks m0 o.2))) (fX10_calls_L51 rc v1 v3 s) := by
  unfold fX10_calls_L51
  exact (Fr_zob (Fr_ite (Fr_some h) (Fr_zob (Fr_b0 (fun x2 => (Fr_ite (Fr_ite (frX10_calls_J102 (fun k h9 => hk k (zss (by decide) k h9)) hrc h) (frX10_calls_J107 (fun k h9 => hk k (zss (by decide) k h9)) hrc h)) (frX10_calls_J102 (fun k h9 => hk k (zss (by decide) k h9)) hrc h)))))))
theorem frX10_calls_J157 {ks : List Nat} (hk : ∀ k ∈ [2023, 2027], k ∈ ks) {rc : Int32 → Int32 → Int32 → zM → Option (Int32 × zM)} {m0 : zM} (hrc : ∀ (a b c : Int32) (m : zM), FS ks m0 m → Fr (fun o => FS ks m0 o.2) (rc a b c m)) {v3 : Int32} {s0 : Int32} {mm : zM} (h : FS ks m0 mm) : Fr (fun o => FS ks m0 o.2) (fX10_calls_J157 rc v3 s0 mm) := by
  unfold fX10_calls_J157
  exact (Fr_bind (frX10_ends (fun k h9 => hk k (zss (by decide) k h9)) h) (fun x7 h_x7 => (Fr_some h_x7)))
theorem frX10_calls {ks : List Nat} (hk : ∀ k ∈ [2023, 2024, 2025, 2026, 2027, 2028], k ∈ ks) {rc : Int32 → Int32 → Int32 → zM → Option (Int32 × zM)} {m0 : zM} (hrc : ∀ (a b c : Int32) (m : zM), FS ks m0 m → Fr (fun o => FS ks m0 o.2) (rc a b c m)) {v1 : Int32} {v2 : Int32} {v3 : Int32} {mm : zM} (h : FS ks m0 mm) : Fr (fun o => FS ks m0 o.2) (fX10_calls rc v1 v2 v3 mm) := by
  unfold fX10_calls
  exact (Fr_ite (frX10_calls_J15 (fun k h9 => hk k (zss (by decide) k h9)) hrc h) (Fr_ite (frX10_calls_J15 (fun k h9 => hk k (zss (by decide) k h9)) hrc h) (Fr_lc (pS := (fun o => FS ks m0 o.2.2)) (pE := (fun o => FS ks m0 o.2)) (pR := (fun o => FS ks m0 o.2)) (fun s hs => frX10_calls_L51 (fun k h9 => hk k (zss (by decide) k h9)) hrc hs) (FS_wf (by decide) (hk _ (by decide)) (FS_wf (by decide) (hk _ (by decide)) h)) (fun y5 h_y5 => (Fr_ite (frX10_calls_J157 (fun k h9 => hk k (zss (by decide) k h9)) hrc h_y5) (frX10_calls_J157 (fun k h9 => hk k (zss (by decide) k h9)) hrc h_y5))) (fun r6 h_r6 => (Fr_some h_r6)))))
theorem frX10_calls_n {ks : List Nat} (hk : ∀ k ∈ [2023, 2024, 2025, 2026, 2027, 2028], k ∈ ks) {m0 : zM} : ∀ (n : Nat) (a b c : Int32) (mm : zM), FS ks m0 mm → Fr (fun o => FS ks m0 o.2) (fX10_calls_n n a b c mm)
  | 0, _, _, _, _, _ => fun _ h => by cases h
  | n + 1, a, b, c, mm, h => by
    show Fr _ (fX10_calls (fX10_calls_n n) a b c mm)
    exact frX10_calls hk (fun a b c m hm => frX10_calls_n hk n a b c m hm) h
theorem frX10_sends {ks : List Nat} (hk : ∀ k ∈ [2022, 2023, 2024, 2025, 2026, 2027, 2028], k ∈ ks) {m0 : zM} {v1 : Int32} {v2 : Int32} {mm : zM} (h : FS ks m0 mm) : Fr (fun o => FS ks m0 o.2) (fX10_sends v1 v2 mm) := by
  unfold fX10_sends
  exact (Fr_zob (Fr_ite (Fr_some (FS_wf (by decide) (hk _ (by decide)) (FS_wf (by decide) (hk _ (by decide)) (FS_wf (by decide) (hk _ (by decide)) (FS_wf (by decide) (hk _ (by decide)) (FS_wf (by decide) (hk _ (by decide)) (FS_wf (by decide) (hk _ (by decide)) (FS_wf (by decide) (hk _ (by decide)) (FS_wf (by decide) (hk _ (by decide)) h))))))))) (Fr_bind (frX10_calls_n (fun k h9 => hk k (zss (by decide) k h9)) _ _ _ _ _ (FS_wf (by decide) (hk _ (by decide)) (FS_wf (by decide) (hk _ (by decide)) (FS_wf (by decide) (hk _ (by decide)) (FS_wf (by decide) (hk _ (by decide)) (FS_wf (by decide) (hk _ (by decide)) (FS_wf (by decide) (hk _ (by decide)) (FS_wf (by decide) (hk _ (by decide)) h)))))))) (fun x1 h_x1 => (Fr_ite (Fr_some h_x1) (Fr_some h_x1))))))
theorem frX10_send {ks : List Nat} (hk : ∀ k ∈ [44, 45, 46, 47, 48, 49, 50, 51, 2022, 2023, 2024, 2025, 2026, 2027, 2028], k ∈ ks) {m0 : zM} {v1 : Int32} {v2 : Int32} {v3 : Int32} {mm : zM} (h : FS ks m0 mm) : Fr (fun o => FS ks m0 o.2) (fX10_send v1 v2 v3 mm) := by
  unfold fX10_send
  exact (Fr_b0 (fun x1 => (Fr_ite (Fr_some h) (Fr_b0 (fun x2 => (Fr_ite (Fr_some h) (Fr_bind (frX10_lays_ (fun k h9 => hk k (zss (by decide) k h9)) h) (fun x3 h_x3 => (Fr_bind (frX10_sends (fun k h9 => hk k (zss (by decide) k h9)) h_x3) (fun x4 h_x4 => (Fr_ite (Fr_some h_x4) (Fr_ite (Fr_some h_x4) (Fr_ite (Fr_some h_x4) (Fr_ite (Fr_some h_x4) (Fr_ite (Fr_some h_x4) (Fr_ite (Fr_some h_x4) (Fr_some h_x4)))))))))))))))))
theorem frX10_chain_L46 {ks : List Nat} (hk : ∀ k ∈ ([] : List Nat), k ∈ ks) {m0 : zM} {v1 : Int32} {v2 : Int32} {v3 : Int32} {mm : zM} {s : (Int32 × Int32)} (h : FS ks m0 mm) : Fr (Sum.elim (fun _ => True) (Sum.elim (fun _ => True) (fun o => FS ks m0 o.2))) (fX10_chain_L46 v1 v2 v3 mm s) := by
  unfold fX10_chain_L46
  exact (Fr_zob (Fr_ite (Fr_some trivial) (Fr_zob (Fr_b0 (fun x4 => (Fr_ite (Fr_ite (Fr_some h) (Fr_some trivial)) (Fr_some trivial)))))))
theorem frX10_chain {ks : List Nat} (hk : ∀ k ∈ [44, 45, 46, 47, 48, 49, 50, 51], k ∈ ks) {m0 : zM} {v1 : Int32} {v2 : Int32} {v3 : Int32} {mm : zM} (h : FS ks m0 mm) : Fr (fun o => FS ks m0 o.2) (fX10_chain v1 v2 v3 mm) := by
  unfold fX10_chain
  exact (Fr_b0 (fun x1 => (Fr_ite (Fr_some h) (Fr_b0 (fun x2 => (Fr_ite (Fr_some h) (Fr_ite (Fr_bind (frX10_lays_ (fun k h9 => hk k (zss (by decide) k h9)) h) (fun x3 h_x3 => (Fr_zob (Fr_ite (Fr_some h_x3) (Fr_lc (pS := (fun _ => True)) (pE := (fun _ => True)) (pR := (fun o => FS ks m0 o.2)) (fun s hs => frX10_chain_L46 (fun k h9 => by cases h9) h_x3) trivial (fun y5 h_y5 => (Fr_ite (Fr_some h_x3) (Fr_some h_x3))) (fun r6 h_r6 => (Fr_some h_r6))))))) (Fr_some h))))))))
theorem frX10_lacks {ks : List Nat} (hk : ∀ k ∈ [44, 45, 46, 47, 48, 49, 50, 51], k ∈ ks) {m0 : zM} {v1 : Int32} {mm : zM} (h : FS ks m0 mm) : Fr (fun o => FS ks m0 o.2) (fX10_lacks v1 mm) := by
  unfold fX10_lacks
  exact (Fr_b0 (fun x1 => (Fr_ite (Fr_some h) (Fr_bind (frX10_lays_ (fun k h9 => hk k (zss (by decide) k h9)) h) (fun x2 h_x2 => (Fr_zob (Fr_ite (Fr_some h_x2) (Fr_b0 (fun x3 => (Fr_some h_x2))))))))))
theorem frX10_answers_L18 {ks : List Nat} (hk : ∀ k ∈ [2022, 2023, 2024, 2025, 2026, 2027, 2028], k ∈ ks) {m0 : zM} {v1 : Int32} {s : (Int32 × Int32 × zM)} (h : FS ks m0 s.2.2) : Fr (Sum.elim (fun o => FS ks m0 o.2.2) (Sum.elim (fun o => FS ks m0 o.2) (fun _ => True))) (fX10_answers_L18 v1 s) := by
  unfold fX10_answers_L18
  exact (Fr_ite (Fr_some h) (Fr_bind (frX10_sends (fun k h9 => hk k (zss (by decide) k h9)) h) (fun x3 h_x3 => (Fr_ite (Fr_some h_x3) (Fr_some h_x3)))))
theorem frX10_answers {ks : List Nat} (hk : ∀ k ∈ [44, 45, 46, 47, 48, 49, 50, 51, 2022, 2023, 2024, 2025, 2026, 2027, 2028], k ∈ ks) {m0 : zM} {v1 : Int32} {mm : zM} (h : FS ks m0 mm) : Fr (fun o => FS ks m0 o.2) (fX10_answers v1 mm) := by
  unfold fX10_answers
  exact (Fr_b0 (fun x1 => (Fr_ite (Fr_some h) (Fr_bind (frX10_lays_ (fun k h9 => hk k (zss (by decide) k h9)) h) (fun x2 h_x2 => (Fr_lc (pS := (fun o => FS ks m0 o.2.2)) (pE := (fun o => FS ks m0 o.2)) (pR := (fun _ => True)) (fun s hs => frX10_answers_L18 (fun k h9 => hk k (zss (by decide) k h9)) hs) h_x2 (fun y4 h_y4 => (Fr_some h_y4)) (fun r5 h_r5 => (Fr_el r5))))))))
theorem frX10_alike_L24 {ks : List Nat} (hk : ∀ k ∈ [2022, 2023, 2024, 2025, 2026, 2027, 2028], k ∈ ks) {m0 : zM} {v1 : Int32} {v2 : Int32} {s : (Int32 × zM)} (h : FS ks m0 s.2) : Fr (Sum.elim (fun o => FS ks m0 o.2) (Sum.elim (fun o => FS ks m0 o) (fun o => FS ks m0 o.2))) (fX10_alike_L24 v1 v2 s) := by
  unfold fX10_alike_L24
  exact (Fr_ite (Fr_some h) (Fr_bind (frX10_sends (fun k h9 => hk k (zss (by decide) k h9)) h) (fun x4 h_x4 => (Fr_bind (frX10_sends (fun k h9 => hk k (zss (by decide) k h9)) h_x4) (fun x5 h_x5 => (Fr_ite (Fr_ite (Fr_some h_x5) (Fr_some h_x5)) (Fr_some h_x5)))))))
theorem frX10_alike {ks : List Nat} (hk : ∀ k ∈ [44, 45, 46, 47, 48, 49, 50, 51, 2022, 2023, 2024, 2025, 2026, 2027, 2028], k ∈ ks) {m0 : zM} {v1 : Int32} {v2 : Int32} {mm : zM} (h : FS ks m0 mm) : Fr (fun o => FS ks m0 o.2) (fX10_alike v1 v2 mm) := by
  unfold fX10_alike
  exact (Fr_b0 (fun x1 => (Fr_ite (Fr_some h) (Fr_b0 (fun x2 => (Fr_ite (Fr_some h) (Fr_bind (frX10_lays_ (fun k h9 => hk k (zss (by decide) k h9)) h) (fun x3 h_x3 => (Fr_lc (pS := (fun o => FS ks m0 o.2)) (pE := (fun o => FS ks m0 o)) (pR := (fun o => FS ks m0 o.2)) (fun s hs => frX10_alike_L24 (fun k h9 => hk k (zss (by decide) k h9)) hs) h_x3 (fun y6 h_y6 => (Fr_some h_y6)) (fun r7 h_r7 => (Fr_some h_r7)))))))))))
theorem frX10_origins {ks : List Nat} (hk : ∀ k ∈ [44, 45, 46, 47, 48, 49, 50, 51, 2022, 2023, 2024, 2025, 2026, 2027, 2028], k ∈ ks) {m0 : zM} {v1 : Int32} {v2 : Int32} {mm : zM} (h : FS ks m0 mm) : Fr (fun o => FS ks m0 o.2) (fX10_origins v1 v2 mm) := by
  unfold fX10_origins
  exact (Fr_b0 (fun x1 => (Fr_ite (Fr_some h) (Fr_b0 (fun x2 => (Fr_ite (Fr_some h) (Fr_bind (frX10_lays_ (fun k h9 => hk k (zss (by decide) k h9)) h) (fun x3 h_x3 => (Fr_bind (frX10_sends (fun k h9 => hk k (zss (by decide) k h9)) h_x3) (fun x4 h_x4 => (Fr_some h_x4)))))))))))
theorem frX10_mean_J73 {ks : List Nat} (hk : ∀ k ∈ ([] : List Nat), k ∈ ks) {m0 : zM} {v1 : Int32} {v2 : Int32} {v4 : Int32} {s0 : Int32} {s1 : Int32} {mm : zM} (h : FS ks m0 mm) : Fr (Sum.elim (fun o => FS ks m0 o.2.2.2) (Sum.elim (fun o => FS ks m0 o.2.2) (fun _ => True))) (fX10_mean_J73 v1 v2 v4 s0 s1 mm) := by
  unfold fX10_mean_J73
  exact (Fr_b0 (fun x4 => (Fr_some h)))
theorem frX10_mean_J58 {ks : List Nat} (hk : ∀ k ∈ ([] : List Nat), k ∈ ks) {m0 : zM} {v1 : Int32} {v3 : Int32} {v4 : Int32} {s0 : Int32} {s1 : Int32} {mm : zM} (h : FS ks m0 mm) : Fr (Sum.elim (fun o => FS ks m0 o.2.2.2) (Sum.elim (fun o => FS ks m0 o.2.2) (fun _ => True))) (fX10_mean_J58 v1 v3 v4 s0 s1 mm) := by
  unfold fX10_mean_J58
  exact (Fr_ite (frX10_mean_J73 (fun k h9 => by cases h9) h) (frX10_mean_J73 (fun k h9 => by cases h9) h))
theorem frX10_mean_L26 {ks : List Nat} (hk : ∀ k ∈ [2022, 2023, 2024, 2025, 2026, 2027, 2028], k ∈ ks) {m0 : zM} {v1 : Int32} {s : (Int32 × Int32 × Int32 × zM)} (h : FS ks m0 s.2.2.2) : Fr (Sum.elim (fun o => FS ks m0 o.2.2.2) (Sum.elim (fun o => FS ks m0 o.2.2) (fun _ => True))) (fX10_mean_L26 v1 s) := by
  unfold fX10_mean_L26
  exact (Fr_ite (Fr_some h) (Fr_bind (frX10_sends (fun k h9 => hk k (zss (by decide) k h9)) h) (fun x3 h_x3 => (Fr_ite (frX10_mean_J58 (fun k h9 => by cases h9) h_x3) (frX10_mean_J58 (fun k h9 => by cases h9) h_x3)))))
theorem frX10_mean_J99 {ks : List Nat} (hk : ∀ k ∈ ([] : List Nat), k ∈ ks) {m0 : zM} {s0 : UInt64} {mm : zM} (h : FS ks m0 mm) : Fr (fun o => FS ks m0 o.2) (fX10_mean_J99 s0 mm) := by
  unfold fX10_mean_J99
  exact (Fr_some h)
