theorem frX9_change_J106 {ks : List Nat} (hk : ∀ k ∈ [5, 7, 15, 30, 31, 32, 33, 34, 1102, 1103, 1912], k ∈ ks) {m0 : zM} {v1 : Int32} {v3 : Int32} {v4 : Int32} {v5 : Nat} {v6 : Int32} {mm : zM} (h : FS ks m0 mm) : Fr (fun o => FS ks m0 o.2) (fX9_change_J106 v1 v3 v4 v5 v6 mm) := by
  unfold fX9_change_J106
  exact (Fr_bind (frX9_beginAct (fun k h9 => hk k (zss (by decide) k h9)) h) (fun x7 h_x7 => (Fr_bind (frX7_setLetterThere (fun k h9 => hk k (zss (by decide) k h9)) h_x7) (fun x8 h_x8 => (Fr_zob (Fr_some h_x8))))))
theorem frX9_change_J34 {ks : List Nat} (hk : ∀ k ∈ [5, 7, 15, 30, 31, 32, 33, 34, 1102, 1103, 1912], k ∈ ks) {m0 : zM} {v1 : Int32} {v2 : Int32} {v3 : Int32} {v4 : Int32} {mm : zM} (h : FS ks m0 mm) : Fr (fun o => FS ks m0 o.2) (fX9_change_J34 v1 v2 v3 v4 mm) := by
  unfold fX9_change_J34
  exact (Fr_b0 (fun j4 => (Fr_zob (Fr_b0 (fun x5 => (Fr_ite (Fr_some h) (Fr_b0 (fun x6 => (Fr_ite (Fr_some h) (Fr_ite (Fr_zob (Fr_ite (frX9_change_J106 (fun k h9 => hk k (zss (by decide) k h9)) h) (Fr_some h))) (frX9_change_J106 (fun k h9 => hk k (zss (by decide) k h9)) h)))))))))))
theorem frX9_change {ks : List Nat} (hk : ∀ k ∈ [5, 7, 15, 30, 31, 32, 33, 34, 1102, 1103, 1912], k ∈ ks) {m0 : zM} {v1 : Int32} {v2 : Int32} {v3 : Int32} {v4 : Int32} {mm : zM} (h : FS ks m0 mm) : Fr (fun o => FS ks m0 o.2) (fX9_change v1 v2 v3 v4 mm) := by
  unfold fX9_change
  exact (Fr_b0 (fun j1 => (Fr_b0 (fun x2 => (Fr_ite (Fr_some h) (Fr_b0 (fun x3 => (Fr_ite (Fr_some h) (Fr_ite (frX9_change_J34 (fun k h9 => hk k (zss (by decide) k h9)) h) (Fr_b0 (fun x9 => (Fr_ite (Fr_some h) (frX9_change_J34 (fun k h9 => hk k (zss (by decide) k h9)) h)))))))))))))
theorem frX1_restoreLast {ks : List Nat} (hk : ∀ k ∈ [5, 7, 30, 31, 32, 33, 34, 1102, 1103], k ∈ ks) {m0 : zM} {v1 : Nat} {mm : zM} (h : FS ks m0 mm) : Fr (fun o => FS ks m0 o) (fX1_restoreLast v1 mm) := by
  unfold fX1_restoreLast
  exact (Fr_zob (Fr_zob (Fr_zob (Fr_bind (frX7_copyFrom (fun k h9 => hk k (zss (by decide) k h9)) (FS_wf (by decide) (hk _ (by decide)) (FS_wf (by decide) (hk _ (by decide)) h))) (fun x1 h_x1 => (Fr_some h_x1))))))
theorem frX9_undo {ks : List Nat} (hk : ∀ k ∈ [5, 7, 30, 31, 32, 33, 34, 1102, 1103, 1912], k ∈ ks) {m0 : zM} {mm : zM} (h : FS ks m0 mm) : Fr (fun o => FS ks m0 o.2) (fX9_undo mm) := by
  unfold fX9_undo
  exact (Fr_ite (Fr_some h) (Fr_b0 (fun j1 => (Fr_bind (frX1_restoreLast (fun k h9 => hk k (zss (by decide) k h9)) h) (fun x2 h_x2 => (Fr_some (FS_wf (by decide) (hk _ (by decide)) h_x2)))))))
theorem frX8_copyFrom_L10 {ks : List Nat} (hk : ∀ k ∈ [5, 7, 30, 31, 32, 33, 34], k ∈ ks) {m0 : zM} {v0 : Nat} {v1 : Nat} {s : (Int32 × zM)} (h : FS ks m0 s.2) : Fr (Sum.elim (fun o => FS ks m0 o.2) (Sum.elim (fun o => FS ks m0 o) (fun _ => True))) (fX8_copyFrom_L10 v0 v1 s) := by
  unfold fX8_copyFrom_L10
  exact (Fr_ite (Fr_some h) (Fr_zob (Fr_zob (Fr_bind (frX7_copyFrom (fun k h9 => hk k (zss (by decide) k h9)) h) (fun x1 h_x1 => (Fr_some h_x1))))))
theorem frX8_copyFrom {ks : List Nat} (hk : ∀ k ∈ [5, 7, 8, 30, 31, 32, 33, 34], k ∈ ks) {m0 : zM} {v0 : Nat} {v1 : Nat} {mm : zM} (h : FS ks m0 mm) : Fr (fun o => FS ks m0 o) (fX8_copyFrom v0 v1 mm) := by
  unfold fX8_copyFrom
  exact (Fr_lc (pS := (fun o => FS ks m0 o.2)) (pE := (fun o => FS ks m0 o)) (pR := (fun _ => True)) (fun s hs => frX8_copyFrom_L10 (fun k h9 => hk k (zss (by decide) k h9)) hs) (FS_wa (by decide) (hk _ (by decide)) h) (fun y2 h_y2 => (Fr_some h_y2)) (fun r3 h_r3 => (Fr_el r3)))
theorem frX9_keep {ks : List Nat} (hk : ∀ k ∈ [5, 7, 8, 30, 31, 32, 33, 34, 1905], k ∈ ks) {m0 : zM} {v1 : Int32} {mm : zM} (h : FS ks m0 mm) : Fr (fun o => FS ks m0 o.2) (fX9_keep v1 mm) := by
  unfold fX9_keep
  exact (Fr_ite (Fr_some h) (Fr_ite (Fr_zob (Fr_b0 (fun j1 => (Fr_bind (frX8_copyFrom (fun k h9 => hk k (zss (by decide) k h9)) h) (fun x2 h_x2 => (Fr_b0 (fun j3 => (Fr_some (FS_wf (by decide) (hk _ (by decide)) h_x2))))))))) (Fr_some h)))
theorem frX9_back {ks : List Nat} (hk : ∀ k ∈ [5, 7, 8, 30, 31, 32, 33, 34, 1103, 1912], k ∈ ks) {m0 : zM} {v1 : Int32} {mm : zM} (h : FS ks m0 mm) : Fr (fun o => FS ks m0 o.2) (fX9_back v1 mm) := by
  unfold fX9_back
  exact (Fr_ite (Fr_some h) (Fr_ite (Fr_b0 (fun x1 => (Fr_ite (Fr_some h) (Fr_b0 (fun j2 => (Fr_zob (Fr_bind (frX8_copyFrom (fun k h9 => hk k (zss (by decide) k h9)) h) (fun x3 h_x3 => (Fr_bind (frX9_startAnew (fun k h9 => hk k (zss (by decide) k h9)) h_x3) (fun x4 h_x4 => (Fr_b0 (fun j5 => (Fr_some h_x4))))))))))))) (Fr_some h)))
theorem frJ7_fill_11_L5 {ks : List Nat} (hk : ∀ k ∈ [11], k ∈ ks) {m0 : zM} {v1 : Int32} {v3 : Int32} {s : (Int32 × zM)} (h : FS ks m0 s.2) : Fr (Sum.elim (fun o => FS ks m0 o.2) (Sum.elim (fun o => FS ks m0 o) (fun _ => True))) (fJ7_fill_11_L5 v1 v3 s) := by
  unfold fJ7_fill_11_L5
  exact (Fr_ite (Fr_some h) (Fr_zob (Fr_some (FS_wa (by decide) (hk _ (by decide)) h))))
theorem frJ7_fill_11 {ks : List Nat} (hk : ∀ k ∈ [11], k ∈ ks) {m0 : zM} {v1 : Int32} {mm : zM} (h : FS ks m0 mm) : Fr (fun o => FS ks m0 o) (fJ7_fill_11 v1 mm) := by
  unfold fJ7_fill_11
  exact (Fr_lc (pS := (fun o => FS ks m0 o.2)) (pE := (fun o => FS ks m0 o)) (pR := (fun _ => True)) (fun s hs => frJ7_fill_11_L5 (fun k h9 => hk k (zss (by decide) k h9)) hs) h (fun y1 h_y1 => (Fr_some h_y1)) (fun r2 h_r2 => (Fr_el r2)))
theorem frX0_layOwn_L2 {ks : List Nat} (hk : ∀ k ∈ [11, 12], k ∈ ks) {m0 : zM} {v1 : Nat} {v2 : Int32} {s : (Int32 × zM)} (h : FS ks m0 s.2) : Fr (Sum.elim (fun o => FS ks m0 o.2) (Sum.elim (fun o => FS ks m0 o) (fun _ => True))) (fX0_layOwn_L2 v1 v2 s) := by
  unfold fX0_layOwn_L2
  exact (Fr_ite (Fr_some h) (Fr_b0 (fun x1 => (Fr_ite (Fr_b0 (fun x2 => (Fr_ite (Fr_some h) (Fr_zob (Fr_some (FS_wa (by decide) (hk _ (by decide)) h)))))) (Fr_zob (Fr_zob (Fr_some (FS_wa (by decide) (hk _ (by decide)) (FS_wa (by decide) (hk _ (by decide)) h)))))))))
theorem frX0_layOwn {ks : List Nat} (hk : ∀ k ∈ [11, 12], k ∈ ks) {m0 : zM} {v1 : Nat} {v2 : Int32} {mm : zM} (h : FS ks m0 mm) : Fr (fun o => FS ks m0 o) (fX0_layOwn v1 v2 mm) := by
  unfold fX0_layOwn
  exact (Fr_lc (pS := (fun o => FS ks m0 o.2)) (pE := (fun o => FS ks m0 o)) (pR := (fun _ => True)) (fun s hs => frX0_layOwn_L2 (fun k h9 => hk k (zss (by decide) k h9)) hs) h (fun y3 h_y3 => (Fr_some h_y3)) (fun r4 h_r4 => (Fr_el r4)))
theorem frX0_addSource_J19 {ks : List Nat} (hk : ∀ k ∈ [11, 12], k ∈ ks) {m0 : zM} {v1 : Int32} {v2 : Int32} {mm : zM} (h : FS ks m0 mm) : Fr (fun o => FS ks m0 o) (fX0_addSource_J19 v1 v2 mm) := by
  unfold fX0_addSource_J19
  exact (Fr_zob (Fr_zob (Fr_some (FS_wa (by decide) (hk _ (by decide)) (FS_wa (by decide) (hk _ (by decide)) h)))))
theorem frX0_addSource {ks : List Nat} (hk : ∀ k ∈ [11, 12, 13], k ∈ ks) {m0 : zM} {v1 : Int32} {v2 : Int32} {mm : zM} (h : FS ks m0 mm) : Fr (fun o => FS ks m0 o) (fX0_addSource v1 v2 mm) := by
  unfold fX0_addSource
  exact (Fr_zob (Fr_ite (frX0_addSource_J19 (fun k h9 => hk k (zss (by decide) k h9)) h) (Fr_zob (Fr_ite (frX0_addSource_J19 (fun k h9 => hk k (zss (by decide) k h9)) h) (Fr_zob (Fr_ite (Fr_zob (Fr_ite (Fr_some h) (Fr_zob (Fr_zob (Fr_some (FS_wa (by decide) (hk _ (by decide)) (FS_wa (by decide) (hk _ (by decide)) h))))))) (Fr_some h)))))))
theorem frX0_layOver_J49 {ks : List Nat} (hk : ∀ k ∈ [11, 12, 13], k ∈ ks) {m0 : zM} {v1 : Int32} {v2 : Int32} {v3 : Int32} {mm : zM} (h : FS ks m0 mm) : Fr (fun o => FS ks m0 o) (fX0_layOver_J49 v1 v2 v3 mm) := by
  unfold fX0_layOver_J49
  exact (Fr_ite (Fr_zob (Fr_bind (frX0_addSource (fun k h9 => hk k (zss (by decide) k h9)) h) (fun x2 h_x2 => (Fr_some h_x2)))) (Fr_some h))
theorem frX0_layOver_J38 {ks : List Nat} (hk : ∀ k ∈ [11, 12, 13], k ∈ ks) {m0 : zM} {v1 : Int32} {v2 : Int32} {v3 : Int32} {mm : zM} (h : FS ks m0 mm) : Fr (fun o => FS ks m0 o) (fX0_layOver_J38 v1 v2 v3 mm) := by
  unfold fX0_layOver_J38
  exact (Fr_zob (Fr_bind (frX0_addSource (fun k h9 => hk k (zss (by decide) k h9)) h) (fun x1 h_x1 => (frX0_layOver_J49 (fun k h9 => hk k (zss (by decide) k h9)) h_x1))))
theorem frX0_layOver_J28 {ks : List Nat} (hk : ∀ k ∈ [11, 12, 13], k ∈ ks) {m0 : zM} {v1 : Int32} {v2 : Int32} {v3 : Int32} {mm : zM} (h : FS ks m0 mm) : Fr (fun o => FS ks m0 o) (fX0_layOver_J28 v1 v2 v3 mm) := by
  unfold fX0_layOver_J28
  exact (Fr_ite (frX0_layOver_J38 (fun k h9 => hk k (zss (by decide) k h9)) h) (Fr_ite (frX0_layOver_J38 (fun k h9 => hk k (zss (by decide) k h9)) h) (frX0_layOver_J49 (fun k h9 => hk k (zss (by decide) k h9)) h)))
theorem frX0_layOver {ks : List Nat} (hk : ∀ k ∈ [11, 12, 13], k ∈ ks) {m0 : zM} {v1 : Int32} {v2 : Int32} {mm : zM} (h : FS ks m0 mm) : Fr (fun o => FS ks m0 o) (fX0_layOver v1 v2 mm) := by
  unfold fX0_layOver
  exact (Fr_zob (Fr_ite (Fr_zob (Fr_ite (Fr_zob (frX0_layOver_J28 (fun k h9 => hk k (zss (by decide) k h9)) (FS_wa (by decide) (hk _ (by decide)) h))) (frX0_layOver_J28 (fun k h9 => hk k (zss (by decide) k h9)) h))) (frX0_layOver_J28 (fun k h9 => hk k (zss (by decide) k h9)) h)))
theorem frX0_layTrait_L13 {ks : List Nat} (hk : ∀ k ∈ [11, 12, 13], k ∈ ks) {m0 : zM} {v1 : Nat} {v2 : Int32} {v3 : Int32} {v4 : Int32} {s : (Int32 × zM)} (h : FS ks m0 s.2) : Fr (Sum.elim (fun o => FS ks m0 o.2) (Sum.elim (fun o => FS ks m0 o) (fun _ => True))) (fX0_layTrait_L13 v1 v2 v3 v4 s) := by
  unfold fX0_layTrait_L13
  exact (Fr_ite (Fr_some h) (Fr_b0 (fun x2 => (Fr_ite (Fr_some h) (Fr_b0 (fun x3 => (Fr_ite (Fr_bind (frX0_layOver (fun k h9 => hk k (zss (by decide) k h9)) h) (fun x4 h_x4 => (Fr_some h_x4))) (Fr_some h))))))))
theorem frX0_layTrait {ks : List Nat} (hk : ∀ k ∈ [11, 12, 13], k ∈ ks) {m0 : zM} {v1 : Nat} {v2 : Int32} {v3 : Int32} {mm : zM} (h : FS ks m0 mm) : Fr (fun o => FS ks m0 o) (fX0_layTrait v1 v2 v3 mm) := by
  unfold fX0_layTrait
  exact (Fr_b0 (fun x1 => (Fr_lc (pS := (fun o => FS ks m0 o.2)) (pE := (fun o => FS ks m0 o)) (pR := (fun _ => True)) (fun s hs => frX0_layTrait_L13 (fun k h9 => hk k (zss (by decide) k h9)) hs) h (fun y5 h_y5 => (Fr_some h_y5)) (fun r6 h_r6 => (Fr_el r6)))))
theorem frX0_layAll_L31 {ks : List Nat} (hk : ∀ k ∈ [11, 12, 13], k ∈ ks) {m0 : zM} {v1 : Nat} {v2 : Int32} {s : (Int32 × zM)} (h : FS ks m0 s.2) : Fr (Sum.elim (fun o => FS ks m0 o.2) (Sum.elim (fun o => FS ks m0 o) (fun _ => True))) (fX0_layAll_L31 v1 v2 s) := by
  unfold fX0_layAll_L31
  exact (Fr_zob (Fr_ite (Fr_some h) (Fr_zob (Fr_bind (frX0_layTrait (fun k h9 => hk k (zss (by decide) k h9)) h) (fun x3 h_x3 => (Fr_some h_x3))))))
theorem frX0_layAll_L10 {ks : List Nat} (hk : ∀ k ∈ [11, 12, 13], k ∈ ks) {m0 : zM} {v1 : Nat} {s : (Int32 × zM)} (h : FS ks m0 s.2) : Fr (Sum.elim (fun o => FS ks m0 o.2) (Sum.elim (fun o => FS ks m0 o) (fun _ => True))) (fX0_layAll_L10 v1 s) := by
  unfold fX0_layAll_L10
  exact (Fr_ite (Fr_some h) (Fr_zob (Fr_bind (frX0_layOwn (fun k h9 => hk k (zss (by decide) k h9)) h) (fun x2 h_x2 => (Fr_lc (pS := (fun o => FS ks m0 o.2)) (pE := (fun o => FS ks m0 o)) (pR := (fun _ => True)) (fun s hs => frX0_layAll_L31 (fun k h9 => hk k (zss (by decide) k h9)) hs) h_x2 (fun y4 h_y4 => (Fr_some h_y4)) (fun r5 h_r5 => (Fr_el r5)))))))
theorem frX0_layAll {ks : List Nat} (hk : ∀ k ∈ [11, 12, 13], k ∈ ks) {m0 : zM} {v1 : Nat} {mm : zM} (h : FS ks m0 mm) : Fr (fun o => FS ks m0 o) (fX0_layAll v1 mm) := by
  unfold fX0_layAll
  exact (Fr_bind (frJ7_fill_11 (fun k h9 => hk k (zss (by decide) k h9)) h) (fun x1 h_x1 => (Fr_lc (pS := (fun o => FS ks m0 o.2)) (pE := (fun o => FS ks m0 o)) (pR := (fun _ => True)) (fun s hs => frX0_layAll_L10 (fun k h9 => hk k (zss (by decide) k h9)) hs) h_x1 (fun y7 h_y7 => (Fr_some h_y7)) (fun r8 h_r8 => (Fr_el r8)))))
theorem frX2_gatherOver {ks : List Nat} (hk : ∀ k ∈ [22], k ∈ ks) {m0 : zM} {v1 : Int32} {v2 : Nat} {mm : zM} (h : FS ks m0 mm) : Fr (fun o => FS ks m0 o) (fX2_gatherOver v1 v2 mm) := by
  unfold fX2_gatherOver
  exact (Fr_lc0 (fun y1 => (Fr_zob (Fr_some (FS_wa (by decide) (hk _ (by decide)) h)))) (fun r2 => (Fr_el r2)))
theorem frX2_loadRows_L12 {ks : List Nat} (hk : ∀ k ∈ [24, 25, 26], k ∈ ks) {m0 : zM} {v1 : Nat} {s : (Int32 × zM)} (h : FS ks m0 s.2) : Fr (Sum.elim (fun o => FS ks m0 o.2) (Sum.elim (fun o => FS ks m0 o) (fun o => FS ks m0 o.2))) (fX2_loadRows_L12 v1 s) := by
  unfold fX2_loadRows_L12
  exact (Fr_ite (Fr_some h) (Fr_zob (Fr_zob (Fr_ite (Fr_some h) (Fr_zob (Fr_zob (Fr_zob (Fr_zob (Fr_zob (Fr_zob (Fr_zob (Fr_some (FS_wa (by decide) (hk _ (by decide)) (FS_wa (by decide) (hk _ (by decide)) (FS_zcp (by decide) (hk _ (by decide)) h)))))))))))))))
theorem frX2_loadRows {ks : List Nat} (hk : ∀ k ∈ [24, 25, 26, 1209], k ∈ ks) {m0 : zM} {v1 : Nat} {mm : zM} (h : FS ks m0 mm) : Fr (fun o => FS ks m0 o.2) (fX2_loadRows v1 mm) := by
  unfold fX2_loadRows
  exact (Fr_lc (pS := (fun o => FS ks m0 o.2)) (pE := (fun o => FS ks m0 o)) (pR := (fun o => FS ks m0 o.2)) (fun s hs => frX2_loadRows_L12 (fun k h9 => hk k (zss (by decide) k h9)) hs) (FS_wf (by decide) (hk _ (by decide)) h) (fun y1 h_y1 => (Fr_zob (Fr_zob (Fr_zob (Fr_zob (Fr_some (FS_wa (by decide) (hk _ (by decide)) (FS_wa (by decide) (hk _ (by decide)) (FS_zcp (by decide) (hk _ (by decide)) h_y1))))))))) (fun r2 h_r2 => (Fr_some h_r2)))
theorem frX2_dropHead_L2 {ks : List Nat} (hk : ∀ k ∈ [25], k ∈ ks) {m0 : zM} {v1 : Int32} {s : (Int32 × zM)} (h : FS ks m0 s.2) : Fr (Sum.elim (fun o => FS ks m0 o.2) (Sum.elim (fun o => FS ks m0 o) (fun _ => True))) (fX2_dropHead_L2 v1 s) := by
  unfold fX2_dropHead_L2
  exact (Fr_ite (Fr_some h) (Fr_zob (Fr_zob (Fr_ite (Fr_some h) (Fr_zob (Fr_zob (Fr_zob (Fr_ite (Fr_zob (Fr_zob (Fr_some (FS_wa (by decide) (hk _ (by decide)) h)))) (Fr_some h)))))))))
theorem frX2_dropHead {ks : List Nat} (hk : ∀ k ∈ [25], k ∈ ks) {m0 : zM} {v1 : Int32} {mm : zM} (h : FS ks m0 mm) : Fr (fun o => FS ks m0 o) (fX2_dropHead v1 mm) := by
  unfold fX2_dropHead
  exact (Fr_lc (pS := (fun o => FS ks m0 o.2)) (pE := (fun o => FS ks m0 o)) (pR := (fun _ => True)) (fun s hs => frX2_dropHead_L2 (fun k h9 => hk k (zss (by decide) k h9)) hs) h (fun y1 h_y1 => (Fr_some h_y1)) (fun r2 h_r2 => (Fr_el r2)))
theorem frX2_ringFrom_L8 {ks : List Nat} (hk : ∀ k ∈ [27], k ∈ ks) {m0 : zM} {v1 : Int32} {s : (Int32 × Int32 × Int32 × zM)} (h : FS ks m0 s.2.2.2) : Fr (Sum.elim (fun o => FS ks m0 o.2.2.2) (Sum.elim (fun o => FS ks m0 o.2.2) (fun _ => True))) (fX2_ringFrom_L8 v1 s) := by
  unfold fX2_ringFrom_L8
  exact (Fr_ite (Fr_some h) (Fr_b0 (fun x1 => (Fr_ite (Fr_zob (Fr_b0 (fun x2 => (Fr_ite (Fr_some (FS_wa (by decide) (hk _ (by decide)) h)) (Fr_zob (Fr_zob (Fr_zob (Fr_some (FS_wa (by decide) (hk _ (by decide)) h))))))))) (Fr_some h)))))
theorem frX2_ringFrom {ks : List Nat} (hk : ∀ k ∈ [20, 21, 27], k ∈ ks) {m0 : zM} {v1 : Int32} {v2 : Int32} {mm : zM} (h : FS ks m0 mm) : Fr (fun o => FS ks m0 o) (fX2_ringFrom v1 v2 mm) := by
  unfold fX2_ringFrom
  exact (Fr_lc (pS := (fun o => FS ks m0 o.2.2.2)) (pE := (fun o => FS ks m0 o.2.2)) (pR := (fun _ => True)) (fun s hs => frX2_ringFrom_L8 (fun k h9 => hk k (zss (by decide) k h9)) hs) h (fun y3 h_y3 => (Fr_lc0 (fun y5 => (Fr_zob (Fr_zob (Fr_zob (Fr_some (FS_wa (by decide) (hk _ (by decide)) (FS_zcp (by decide) (hk _ (by decide)) h_y3))))))) (fun r6 => (Fr_el r6)))) (fun r4 h_r4 => (Fr_el r4)))
theorem frX2_merge_L19 {ks : List Nat} (hk : ∀ k ∈ [17, 25], k ∈ ks) {m0 : zM} {v1 : Int32} {v2 : Nat} {s : (Int32 × Int32 × zM)} (h : FS ks m0 s.2.2) : Fr (Sum.elim (fun o => FS ks m0 o.2.2) (Sum.elim (fun o => FS ks m0 o.2) (fun _ => True))) (fX2_merge_L19 v1 v2 s) := by
  unfold fX2_merge_L19
  exact (Fr_ite (Fr_some h) (Fr_ite (Fr_some h) (Fr_zob (Fr_bind (frX2_dropHead (fun k h9 => hk k (zss (by decide) k h9)) (FS_wa (by decide) (hk _ (by decide)) h)) (fun x2 h_x2 => (Fr_b0 (fun x3 => (Fr_some h_x2))))))))
theorem frX2_merge {ks : List Nat} (hk : ∀ k ∈ [17, 18, 20, 21, 25, 27], k ∈ ks) {m0 : zM} {v1 : Int32} {mm : zM} (h : FS ks m0 mm) : Fr (fun o => FS ks m0 o) (fX2_merge v1 mm) := by
  unfold fX2_merge
  exact (Fr_zob (Fr_b0 (fun x1 => (Fr_lc (pS := (fun o => FS ks m0 o.2.2)) (pE := (fun o => FS ks m0 o.2)) (pR := (fun _ => True)) (fun s hs => frX2_merge_L19 (fun k h9 => hk k (zss (by decide) k h9)) hs) (FS_wa (by decide) (hk _ (by decide)) h) (fun y4 h_y4 => (Fr_b0 (fun x6 => (Fr_ite (Fr_zob (Fr_some (FS_wa (by decide) (hk _ (by decide)) h_y4))) (Fr_zob (Fr_zob (Fr_zob (Fr_bind (frX2_ringFrom (fun k h9 => hk k (zss (by decide) k h9)) h_y4) (fun x7 h_x7 => (Fr_some h_x7)))))))))) (fun r5 h_r5 => (Fr_el r5))))))
theorem frX2_mergeAll_L2 {ks : List Nat} (hk : ∀ k ∈ [17, 18, 20, 21, 22, 24, 25, 26, 27, 1209], k ∈ ks) {m0 : zM} {v1 : Nat} {s : (Int32 × zM)} (h : FS ks m0 s.2) : Fr (Sum.elim (fun o => FS ks m0 o.2) (Sum.elim (fun o => FS ks m0 o) (fun _ => True))) (fX2_mergeAll_L2 v1 s) := by
  unfold fX2_mergeAll_L2
  exact (Fr_ite (Fr_some h) (Fr_zob (Fr_zob (Fr_zob (Fr_b0 (fun x1 => (Fr_ite (Fr_some (FS_wa (by decide) (hk _ (by decide)) (FS_wa (by decide) (hk _ (by decide)) (FS_wa (by decide) (hk _ (by decide)) h)))) (Fr_zob (Fr_bind (frX2_gatherOver (fun k h9 => hk k (zss (by decide) k h9)) (FS_wa (by decide) (hk _ (by decide)) (FS_wa (by decide) (hk _ (by decide)) (FS_wa (by decide) (hk _ (by decide)) h)))) (fun x2 h_x2 => (Fr_bind (frX2_loadRows (fun k h9 => hk k (zss (by decide) k h9)) h_x2) (fun x3 h_x3 => (Fr_ite (Fr_some h_x3) (Fr_bind (frX2_merge (fun k h9 => hk k (zss (by decide) k h9)) h_x3) (fun x4 h_x4 => (Fr_some h_x4))))))))))))))))
theorem frX2_mergeAll {ks : List Nat} (hk : ∀ k ∈ [17, 18, 20, 21, 22, 24, 25, 26, 27, 1209], k ∈ ks) {m0 : zM} {v1 : Nat} {mm : zM} (h : FS ks m0 mm) : Fr (fun o => FS ks m0 o) (fX2_mergeAll v1 mm) := by
  unfold fX2_mergeAll
  exact (Fr_lc (pS := (fun o => FS ks m0 o.2)) (pE := (fun o => FS ks m0 o)) (pR := (fun _ => True)) (fun s hs => frX2_mergeAll_L2 (fun k h9 => hk k (zss (by decide) k h9)) hs) h (fun y5 h_y5 => (Fr_some h_y5)) (fun r6 h_r6 => (Fr_el r6)))
theorem frX9_settle {ks : List Nat} (hk : ∀ k ∈ [11, 12, 13, 17, 18, 20, 21, 22, 24, 25, 26, 27, 1209, 1912], k ∈ ks) {m0 : zM} {mm : zM} (h : FS ks m0 mm) : Fr (fun o => FS ks m0 o) (fX9_settle mm) := by
  unfold fX9_settle
  exact (Fr_ite (Fr_some h) (Fr_b0 (fun j1 => (Fr_bind (frX0_layAll (fun k h9 => hk k (zss (by decide) k h9)) h) (fun x2 h_x2 => (Fr_b0 (fun j3 => (Fr_bind (frX2_mergeAll (fun k h9 => hk k (zss (by decide) k h9)) h_x2) (fun x4 h_x4 => (Fr_some (FS_wf (by decide) (hk _ (by decide)) h_x4)))))))))))
theorem frX9_unit {ks : List Nat} (hk : ∀ k ∈ [11, 12, 13, 17, 18, 20, 21, 22, 24, 25, 26, 27, 1209, 1912], k ∈ ks) {m0 : zM} {v1 : Int32} {v2 : Int32} {mm : zM} (h : FS ks m0 mm) : Fr (fun o => FS ks m0 o.2) (fX9_unit v1 v2 mm) := by
  unfold fX9_unit
  exact (Fr_b0 (fun j1 => (Fr_b0 (fun x2 => (Fr_ite (Fr_some h) (Fr_bind (frX9_settle (fun k h9 => hk k (zss (by decide) k h9)) h) (fun x3 h_x3 => (Fr_b0 (fun j4 => (Fr_zob (Fr_ite (Fr_ite (Fr_some h_x3) (Fr_some h_x3)) (Fr_ite (Fr_some h_x3) (Fr_ite (Fr_some h_x3) (Fr_ite (Fr_some h_x3) (Fr_ite (Fr_b0 (fun x10 => (Fr_some h_x3))) (Fr_ite (Fr_b0 (fun x9 => (Fr_some h_x3))) (Fr_ite (Fr_b0 (fun x8 => (Fr_some h_x3))) (Fr_ite (Fr_b0 (fun x7 => (Fr_some h_x3))) (Fr_ite (Fr_b0 (fun x6 => (Fr_some h_x3))) (Fr_ite (Fr_b0 (fun x5 => (Fr_some h_x3))) (Fr_some h_x3)))))))))))))))))))))
theorem frX9_flat_J104 {ks : List Nat} (hk : ∀ k ∈ ([] : List Nat), k ∈ ks) {m0 : zM} {v3 : Int32} {s0 : Int32} {mm : zM} (h : FS ks m0 mm) : Fr (fun o => FS ks m0 o.2) (fX9_flat_J104 v3 s0 mm) := by
  unfold fX9_flat_J104
  exact (Fr_ite (Fr_some h) (Fr_ite (Fr_some h) (Fr_some h)))
theorem frX9_flat_J78 {ks : List Nat} (hk : ∀ k ∈ ([] : List Nat), k ∈ ks) {m0 : zM} {v1 : Int32} {v2 : Int32} {v3 : Int32} {mm : zM} (h : FS ks m0 mm) : Fr (fun o => FS ks m0 o.2) (fX9_flat_J78 v1 v2 v3 mm) := by
  unfold fX9_flat_J78
  exact (Fr_ite (Fr_b0 (fun x6 => (frX9_flat_J104 (fun k h9 => by cases h9) h))) (Fr_b0 (fun x7 => (frX9_flat_J104 (fun k h9 => by cases h9) h))))
theorem frX9_flat {ks : List Nat} (hk : ∀ k ∈ [11, 12, 13, 17, 18, 20, 21, 22, 24, 25, 26, 27, 1209, 1912], k ∈ ks) {m0 : zM} {v1 : Int32} {v2 : Int32} {v3 : Int32} {mm : zM} (h : FS ks m0 mm) : Fr (fun o => FS ks m0 o.2) (fX9_flat v1 v2 v3 mm) := by
  unfold fX9_flat
  exact (Fr_b0 (fun j1 => (Fr_b0 (fun x2 => (Fr_ite (Fr_some h) (Fr_b0 (fun x3 => (Fr_ite (Fr_some h) (Fr_ite (Fr_some h) (Fr_ite (Fr_bind (frX9_settle (fun k h9 => hk k (zss (by decide) k h9)) h) (fun x4 h_x4 => (Fr_b0 (fun x5 => (Fr_ite (Fr_some h_x4) (Fr_ite (Fr_some h_x4) (Fr_ite (Fr_some h_x4) (Fr_ite (Fr_ite (frX9_flat_J78 (fun k h9 => by cases h9) h_x4) (Fr_some h_x4)) (frX9_flat_J78 (fun k h9 => by cases h9) h_x4))))))))) (Fr_some h)))))))))))
theorem frX9_line {ks : List Nat} (hk : ∀ k ∈ [11, 12, 13, 17, 18, 20, 21, 22, 24, 25, 26, 27, 1209, 1912], k ∈ ks) {m0 : zM} {v1 : Int32} {v2 : Int32} {mm : zM} (h : FS ks m0 mm) : Fr (fun o => FS ks m0 o.2) (fX9_line v1 v2 mm) := by
  unfold fX9_line
  exact (Fr_b0 (fun j1 => (Fr_b0 (fun x2 => (Fr_ite (Fr_some h) (Fr_ite (Fr_bind (frX9_settle (fun k h9 => hk k (zss (by decide) k h9)) h) (fun x3 h_x3 => (Fr_zob (Fr_zob (Fr_b0 (fun x4 => (Fr_some h_x3))))))) (Fr_some h)))))))
theorem frX9_ring {ks : List Nat} (hk : ∀ k ∈ [11, 12, 13, 17, 18, 20, 21, 22, 24, 25, 26, 27, 1209, 1912], k ∈ ks) {m0 : zM} {v1 : Int32} {v2 : Int32} {mm : zM} (h : FS ks m0 mm) : Fr (fun o => FS ks m0 o.2) (fX9_ring v1 v2 mm) := by
  unfold fX9_ring
  exact (Fr_b0 (fun j1 => (Fr_b0 (fun x2 => (Fr_ite (Fr_some h) (Fr_ite (Fr_bind (frX9_settle (fun k h9 => hk k (zss (by decide) k h9)) h) (fun x3 h_x3 => (Fr_zob (Fr_zob (Fr_b0 (fun x4 => (Fr_some h_x3))))))) (Fr_some h)))))))
theorem frX9_over {ks : List Nat} (hk : ∀ k ∈ [11, 12, 13, 17, 18, 20, 21, 22, 24, 25, 26, 27, 1209, 1912], k ∈ ks) {m0 : zM} {v1 : Int32} {mm : zM} (h : FS ks m0 mm) : Fr (fun o => FS ks m0 o.2) (fX9_over v1 mm) := by
  unfold fX9_over
  exact (Fr_b0 (fun j1 => (Fr_b0 (fun x2 => (Fr_ite (Fr_some h) (Fr_bind (frX9_settle (fun k h9 => hk k (zss (by decide) k h9)) h) (fun x3 h_x3 => (Fr_zob (Fr_some h_x3)))))))))
theorem frJ7_fill_28_L5 {ks : List Nat} (hk : ∀ k ∈ [28], k ∈ ks) {m0 : zM} {v1 : Int32} {v3 : Int32} {s : (Int32 × zM)} (h : FS ks m0 s.2) : Fr (Sum.elim (fun o => FS ks m0 o.2) (Sum.elim (fun o => FS ks m0 o) (fun _ => True))) (fJ7_fill_28_L5 v1 v3 s) := by
  unfold fJ7_fill_28_L5
  exact (Fr_ite (Fr_some h) (Fr_zob (Fr_some (FS_wa (by decide) (hk _ (by decide)) h))))
theorem frJ7_fill_28 {ks : List Nat} (hk : ∀ k ∈ [28], k ∈ ks) {m0 : zM} {v1 : Int32} {mm : zM} (h : FS ks m0 mm) : Fr (fun o => FS ks m0 o) (fJ7_fill_28 v1 mm) := by
  unfold fJ7_fill_28
  exact (Fr_lc (pS := (fun o => FS ks m0 o.2)) (pE := (fun o => FS ks m0 o)) (pR := (fun _ => True)) (fun s hs => frJ7_fill_28_L5 (fun k h9 => hk k (zss (by decide) k h9)) hs) h (fun y1 h_y1 => (Fr_some h_y1)) (fun r2 h_r2 => (Fr_el r2)))
theorem frX3_tellParents_L7 {ks : List Nat} (hk : ∀ k ∈ [28], k ∈ ks) {m0 : zM} {v2 : Nat} {s : (Int32 × Int32 × zM)} (h : FS ks m0 s.2.2) : Fr (Sum.elim (fun o => FS ks m0 o.2.2) (Sum.elim (fun o => FS ks m0 o) (fun _ => True))) (fX3_tellParents_L7 v2 s) := by
  unfold fX3_tellParents_L7
  exact (Fr_ite (Fr_some h) (Fr_zob (Fr_zob (Fr_zob (Fr_some (FS_wa (by decide) (hk _ (by decide)) h))))))
theorem frX3_tellParents {ks : List Nat} (hk : ∀ k ∈ [28], k ∈ ks) {m0 : zM} {v1 : Int32} {v2 : Nat} {mm : zM} (h : FS ks m0 mm) : Fr (fun o => FS ks m0 o) (fX3_tellParents v1 v2 mm) := by
  unfold fX3_tellParents
  exact (Fr_lc (pS := (fun o => FS ks m0 o.2.2)) (pE := (fun o => FS ks m0 o)) (pR := (fun _ => True)) (fun s hs => frX3_tellParents_L7 (fun k h9 => hk k (zss (by decide) k h9)) hs) h (fun y1 h_y1 => (Fr_some h_y1)) (fun r2 h_r2 => (Fr_el r2)))
theorem frX3_closeAhead_L10 {ks : List Nat} (hk : ∀ k ∈ [28], k ∈ ks) {m0 : zM} {v1 : Int32} {s : (Int32 × zM)} (h : FS ks m0 s.2) : Fr (Sum.elim (fun o => FS ks m0 o.2) (Sum.elim (fun o => FS ks m0 o) (fun _ => True))) (fX3_closeAhead_L10 v1 s) := by
  unfold fX3_closeAhead_L10
  exact (Fr_ite (Fr_some h) (Fr_zob (Fr_b0 (fun x1 => (Fr_ite (Fr_some h) (Fr_zob (Fr_zob (Fr_zob (Fr_some (FS_wa (by decide) (hk _ (by decide)) h))))))))))
theorem frX3_closeAhead_L2 {ks : List Nat} (hk : ∀ k ∈ [28], k ∈ ks) {m0 : zM} {s : (Int32 × zM)} (h : FS ks m0 s.2) : Fr (Sum.elim (fun o => FS ks m0 o.2) (Sum.elim (fun o => FS ks m0 o) (fun _ => True))) (fX3_closeAhead_L2 s) := by
  unfold fX3_closeAhead_L2
  exact (Fr_ite (Fr_some h) (Fr_lc (pS := (fun o => FS ks m0 o.2)) (pE := (fun o => FS ks m0 o)) (pR := (fun _ => True)) (fun s hs => frX3_closeAhead_L10 (fun k h9 => hk k (zss (by decide) k h9)) hs) h (fun y2 h_y2 => (Fr_some h_y2)) (fun r3 h_r3 => (Fr_el r3))))
theorem frX3_closeAhead {ks : List Nat} (hk : ∀ k ∈ [28], k ∈ ks) {m0 : zM} {mm : zM} (h : FS ks m0 mm) : Fr (fun o => FS ks m0 o) (fX3_closeAhead mm) := by
  unfold fX3_closeAhead
  exact (Fr_lc (pS := (fun o => FS ks m0 o.2)) (pE := (fun o => FS ks m0 o)) (pR := (fun _ => True)) (fun s hs => frX3_closeAhead_L2 (fun k h9 => hk k (zss (by decide) k h9)) hs) h (fun y5 h_y5 => (Fr_some h_y5)) (fun r6 h_r6 => (Fr_el r6)))
theorem frX3_prepare_L15 {ks : List Nat} (hk : ∀ k ∈ [28], k ∈ ks) {m0 : zM} {v1 : Nat} {s : (Int32 × zM)} (h : FS ks m0 s.2) : Fr (Sum.elim (fun o => FS ks m0 o.2) (Sum.elim (fun o => FS ks m0 o) (fun _ => True))) (fX3_prepare_L15 v1 s) := by
  unfold fX3_prepare_L15
  exact (Fr_ite (Fr_some h) (Fr_b0 (fun x2 => (Fr_ite (Fr_some h) (Fr_zob (Fr_bind (frX3_tellParents (fun k h9 => hk k (zss (by decide) k h9)) h) (fun x3 h_x3 => (Fr_some h_x3))))))))
theorem frX3_prepare {ks : List Nat} (hk : ∀ k ∈ [28, 1302], k ∈ ks) {m0 : zM} {v1 : Nat} {v2 : Int32} {mm : zM} (h : FS ks m0 mm) : Fr (fun o => FS ks m0 o) (fX3_prepare v1 v2 mm) := by
  unfold fX3_prepare
  exact (Fr_bind (frJ7_fill_28 (fun k h9 => hk k (zss (by decide) k h9)) (FS_wf (by decide) (hk _ (by decide)) h)) (fun x1 h_x1 => (Fr_lc (pS := (fun o => FS ks m0 o.2)) (pE := (fun o => FS ks m0 o)) (pR := (fun _ => True)) (fun s hs => frX3_prepare_L15 (fun k h9 => hk k (zss (by decide) k h9)) hs) h_x1 (fun y4 h_y4 => (Fr_bind (frX3_closeAhead (fun k h9 => hk k (zss (by decide) k h9)) h_y4) (fun x6 h_x6 => (Fr_some h_x6)))) (fun r5 h_r5 => (Fr_el r5)))))
theorem frJ7_fill_29_L5 {ks : List Nat} (hk : ∀ k ∈ [29], k ∈ ks) {m0 : zM} {v1 : Int32} {v3 : Int32} {s : (Int32 × zM)} (h : FS ks m0 s.2) : Fr (Sum.elim (fun o => FS ks m0 o.2) (Sum.elim (fun o => FS ks m0 o) (fun _ => True))) (fJ7_fill_29_L5 v1 v3 s) := by
  unfold fJ7_fill_29_L5
  exact (Fr_ite (Fr_some h) (Fr_zob (Fr_some (FS_wa (by decide) (hk _ (by decide)) h))))
theorem frJ7_fill_29 {ks : List Nat} (hk : ∀ k ∈ [29], k ∈ ks) {m0 : zM} {v1 : Int32} {mm : zM} (h : FS ks m0 mm) : Fr (fun o => FS ks m0 o) (fJ7_fill_29 v1 mm) := by
  unfold fJ7_fill_29
  exact (Fr_lc (pS := (fun o => FS ks m0 o.2)) (pE := (fun o => FS ks m0 o)) (pR := (fun _ => True)) (fun s hs => frJ7_fill_29_L5 (fun k h9 => hk k (zss (by decide) k h9)) hs) h (fun y1 h_y1 => (Fr_some h_y1)) (fun r2 h_r2 => (Fr_el r2)))
theorem frX3_addNext_L2 {ks : List Nat} (hk : ∀ k ∈ [29], k ∈ ks) {m0 : zM} {v1 : Int32} {s : (Int32 × zM)} (h : FS ks m0 s.2) : Fr (Sum.elim (fun o => FS ks m0 o.2) (Sum.elim (fun o => FS ks m0 o) (fun _ => True))) (fX3_addNext_L2 v1 s) := by
  unfold fX3_addNext_L2
  exact (Fr_ite (Fr_some h) (Fr_b0 (fun x1 => (Fr_ite (Fr_some h) (Fr_zob (Fr_zob (Fr_zob (Fr_some (FS_wa (by decide) (hk _ (by decide)) h)))))))))
theorem frX3_addNext {ks : List Nat} (hk : ∀ k ∈ [29], k ∈ ks) {m0 : zM} {v1 : Int32} {mm : zM} (h : FS ks m0 mm) : Fr (fun o => FS ks m0 o) (fX3_addNext v1 mm) := by
  unfold fX3_addNext
  exact (Fr_lc (pS := (fun o => FS ks m0 o.2)) (pE := (fun o => FS ks m0 o)) (pR := (fun _ => True)) (fun s hs => frX3_addNext_L2 (fun k h9 => hk k (zss (by decide) k h9)) hs) h (fun y2 h_y2 => (Fr_some h_y2)) (fun r3 h_r3 => (Fr_el r3)))
theorem frX3_howMany_L26 {ks : List Nat} (hk : ∀ k ∈ [29], k ∈ ks) {m0 : zM} {s : (Int32 × zM)} (h : FS ks m0 s.2) : Fr (Sum.elim (fun o => FS ks m0 o.2) (Sum.elim (fun o => FS ks m0 o) (fun _ => True))) (fX3_howMany_L26 s) := by
  unfold fX3_howMany_L26
  exact (Fr_ite (Fr_some h) (Fr_zob (Fr_ite (Fr_some h) (Fr_bind (frX3_addNext (fun k h9 => hk k (zss (by decide) k h9)) h) (fun x3 h_x3 => (Fr_some h_x3))))))
theorem frX3_howMany {ks : List Nat} (hk : ∀ k ∈ [29], k ∈ ks) {m0 : zM} {mm : zM} (h : FS ks m0 mm) : Fr (fun o => FS ks m0 o.2) (fX3_howMany mm) := by
  unfold fX3_howMany
  exact (Fr_b0 (fun x1 => (Fr_ite (Fr_bind (frJ7_fill_29 (fun k h9 => hk k (zss (by decide) k h9)) h) (fun x2 h_x2 => (Fr_lc (pS := (fun o => FS ks m0 o.2)) (pE := (fun o => FS ks m0 o)) (pR := (fun _ => True)) (fun s hs => frX3_howMany_L26 (fun k h9 => hk k (zss (by decide) k h9)) hs) (FS_wa (by decide) (hk _ (by decide)) h_x2) (fun y4 h_y4 => (Fr_zob (Fr_some h_y4))) (fun r5 h_r5 => (Fr_el r5))))) (Fr_some h))))
theorem frX9_orders {ks : List Nat} (hk : ∀ k ∈ [11, 12, 13, 17, 18, 20, 21, 22, 24, 25, 26, 27, 28, 29, 1209, 1302, 1912], k ∈ ks) {m0 : zM} {v1 : Int32} {mm : zM} (h : FS ks m0 mm) : Fr (fun o => FS ks m0 o.2) (fX9_orders v1 mm) := by
  unfold fX9_orders
  exact (Fr_b0 (fun j1 => (Fr_b0 (fun x2 => (Fr_ite (Fr_some h) (Fr_bind (frX9_settle (fun k h9 => hk k (zss (by decide) k h9)) h) (fun x3 h_x3 => (Fr_b0 (fun j4 => (Fr_zob (Fr_bind (frX3_prepare (fun k h9 => hk k (zss (by decide) k h9)) h_x3) (fun x5 h_x5 => (Fr_bind (frX3_howMany (fun k h9 => hk k (zss (by decide) k h9)) h_x5) (fun x6 h_x6 => (Fr_some h_x6)))))))))))))))
theorem frX9_first {ks : List Nat} (hk : ∀ k ∈ [11, 12, 13, 17, 18, 20, 21, 22, 24, 25, 26, 27, 28, 1209, 1302, 1912], k ∈ ks) {m0 : zM} {v1 : Int32} {v2 : Int32} {mm : zM} (h : FS ks m0 mm) : Fr (fun o => FS ks m0 o.2) (fX9_first v1 v2 mm) := by
  unfold fX9_first
  exact (Fr_b0 (fun j1 => (Fr_b0 (fun x2 => (Fr_ite (Fr_some h) (Fr_bind (frX9_settle (fun k h9 => hk k (zss (by decide) k h9)) h) (fun x3 h_x3 => (Fr_b0 (fun j4 => (Fr_zob (Fr_bind (frX3_prepare (fun k h9 => hk k (zss (by decide) k h9)) h_x3) (fun x5 h_x5 => (Fr_b0 (fun x6 => (Fr_some h_x5)))))))))))))))
theorem frX9_place {ks : List Nat} (hk : ∀ k ∈ [11, 12, 13, 17, 18, 20, 21, 22, 24, 25, 26, 27, 28, 1209, 1302, 1912], k ∈ ks) {m0 : zM} {v1 : Int32} {v2 : Int32} {mm : zM} (h : FS ks m0 mm) : Fr (fun o => FS ks m0 o.2) (fX9_place v1 v2 mm) := by
  unfold fX9_place
  exact (Fr_b0 (fun j1 => (Fr_b0 (fun x2 => (Fr_ite (Fr_some h) (Fr_b0 (fun j3 => (Fr_b0 (fun x4 => (Fr_ite (Fr_some h) (Fr_bind (frX9_settle (fun k h9 => hk k (zss (by decide) k h9)) h) (fun x5 h_x5 => (Fr_zob (Fr_b0 (fun x6 => (Fr_ite (Fr_some h_x5) (Fr_b0 (fun j7 => (Fr_zob (Fr_bind (frX3_prepare (fun k h9 => hk k (zss (by decide) k h9)) h_x5) (fun x8 h_x8 => (Fr_b0 (fun x9 => (Fr_some h_x8))))))))))))))))))))))))
theorem frX6_stop {ks : List Nat} (hk : ∀ k ∈ [1604, 1609], k ∈ ks) {m0 : zM} {v1 : Int32} {v2 : Int32} {mm : zM} (h : FS ks m0 mm) : Fr (fun o => FS ks m0 o.2) (fX6_stop v1 v2 mm) := by
  unfold fX6_stop
  exact (Fr_some (FS_wf (by decide) (hk _ (by decide)) (FS_wf (by decide) (hk _ (by decide)) h)))
theorem frX6_addTerms_L82 {ks : List Nat} (hk : ∀ k ∈ ([] : List Nat), k ∈ ks) {rc : Int32 → Int32 → Int32 → zM → Option (Int32 × zM)} {m0 : zM} (hrc : ∀ (a b c : Int32) (m : zM), FS ks m0 m → Fr (fun o => FS ks m0 o.2) (rc a b c m)) {v1 : Int32} {v2 : Int32} {v3 : Int32} {v6 : Nat} {v7 : Int32} {s : (Int32 × Int32 × zM)} (h : FS ks m0 s.2.2) : Fr (Sum.elim (fun o => FS ks m0 o.2.2) (Sum.elim (fun o => FS ks m0 o.2) (fun _ => True))) (fX6_addTerms_L82 rc v1 v2 v3 v6 v7 s) := by
  unfold fX6_addTerms_L82
  exact (Fr_zob (Fr_ite (Fr_some h) (Fr_ite (Fr_b0 (fun x3 => (Fr_ite (Fr_ite (Fr_bind (hrc _ _ _ _ h) (fun x5 h_x5 => (Fr_some h_x5))) (Fr_bind (hrc _ _ _ _ h) (fun x4 h_x4 => (Fr_some h_x4)))) (Fr_some h)))) (Fr_some h))))
theorem frX6_addTerms_J76 {ks : List Nat} (hk : ∀ k ∈ ([] : List Nat), k ∈ ks) {rc : Int32 → Int32 → Int32 → zM → Option (Int32 × zM)} {m0 : zM} (hrc : ∀ (a b c : Int32) (m : zM), FS ks m0 m → Fr (fun o => FS ks m0 o.2) (rc a b c m)) {v1 : Int32} {v2 : Int32} {v3 : Int32} {v6 : Nat} {v7 : Int32} {mm : zM} (h : FS ks m0 mm) : Fr (fun o => FS ks m0 o.2) (fX6_addTerms_J76 rc v1 v2 v3 v6 v7 mm) := by
  unfold fX6_addTerms_J76
  exact (Fr_lc (pS := (fun o => FS ks m0 o.2.2)) (pE := (fun o => FS ks m0 o.2)) (pR := (fun _ => True)) (fun s hs => frX6_addTerms_L82 (fun k h9 => by cases h9) hrc hs) h (fun y6 h_y6 => (Fr_some h_y6)) (fun r7 h_r7 => (Fr_el r7)))
theorem frX6_addTerms {ks : List Nat} (hk : ∀ k ∈ [1608, 1610], k ∈ ks) {rc : Int32 → Int32 → Int32 → zM → Option (Int32 × zM)} {m0 : zM} (hrc : ∀ (a b c : Int32) (m : zM), FS ks m0 m → Fr (fun o => FS ks m0 o.2) (rc a b c m)) {v1 : Int32} {v2 : Int32} {v3 : Int32} {mm : zM} (h : FS ks m0 mm) : Fr (fun o => FS ks m0 o.2) (fX6_addTerms rc v1 v2 v3 mm) := by
  unfold fX6_addTerms
  exact (Fr_zob (Fr_zob (Fr_zob (Fr_zob (Fr_b0 (fun x1 => (Fr_b0 (fun j2 => (Fr_zob (Fr_ite (frX6_addTerms_J76 (fun k h9 => by cases h9) hrc (FS_wf (by decide) (hk _ (by decide)) (FS_wf (by decide) (hk _ (by decide)) h))) (frX6_addTerms_J76 (fun k h9 => by cases h9) hrc (FS_wf (by decide) (hk _ (by decide)) h))))))))))))
theorem frX6_lookFor_J15 {ks : List Nat} (hk : ∀ k ∈ [1604, 1609], k ∈ ks) {rc : Int32 → Int32 → Int32 → zM → Option (Int32 × zM)} {m0 : zM} (hrc : ∀ (a b c : Int32) (m : zM), FS ks m0 m → Fr (fun o => FS ks m0 o.2) (rc a b c m)) {v3 : Int32} {mm : zM} (h : FS ks m0 mm) : Fr (fun o => FS ks m0 o.2) (fX6_lookFor_J15 rc v3 mm) := by
  unfold fX6_lookFor_J15
  exact (Fr_bind (frX6_stop (fun k h9 => hk k (zss (by decide) k h9)) h) (fun x1 h_x1 => (Fr_some h_x1)))
theorem frX6_lookFor_L50 {ks : List Nat} (hk : ∀ k ∈ [1604, 1608, 1609, 1610], k ∈ ks) {rc : Int32 → Int32 → Int32 → zM → Option (Int32 × zM)} {m0 : zM} (hrc : ∀ (a b c : Int32) (m : zM), FS ks m0 m → Fr (fun o => FS ks m0 o.2) (rc a b c m)) {v1 : Int32} {v3 : Int32} {s : (Int32 × Int32 × zM)} (h : FS ks m0 s.2.2) : Fr (Sum.elim (fun o => FS ks m0 o.2.2) (Sum.elim (fun o => FS ks m0 o.2) (fun o => FS ks m0 o.2))) (fX6_lookFor_L50 rc v1 v3 s) := by
  unfold fX6_lookFor_L50
  exact (Fr_zob (Fr_zob (Fr_ite (Fr_some h) (Fr_zob (Fr_zob (Fr_zob (Fr_zob (Fr_b0 (fun x2 => (Fr_ite (Fr_bind (frX6_addTerms (fun k h9 => hk k (zss (by decide) k h9)) hrc h) (fun x4 h_x4 => (Fr_some h_x4))) (Fr_ite (Fr_bind (frX6_stop (fun k h9 => hk k (zss (by decide) k h9)) h) (fun x3 h_x3 => (Fr_some h_x3))) (Fr_ite (Fr_ite (Fr_some h) (Fr_some h)) (Fr_some h)))))))))))))
theorem frX6_lookFor_J155 {ks : List Nat} (hk : ∀ k ∈ [1604, 1609], k ∈ ks) {rc : Int32 → Int32 → Int32 → zM → Option (Int32 × zM)} {m0 : zM} (hrc : ∀ (a b c : Int32) (m : zM), FS ks m0 m → Fr (fun o => FS ks m0 o.2) (rc a b c m)) {v3 : Int32} {s0 : Int32} {mm : zM} (h : FS ks m0 mm) : Fr (fun o => FS ks m0 o.2) (fX6_lookFor_J155 rc v3 s0 mm) := by
  unfold fX6_lookFor_J155
  exact (Fr_bind (frX6_stop (fun k h9 => hk k (zss (by decide) k h9)) h) (fun x7 h_x7 => (Fr_some h_x7)))
theorem frX6_lookFor {ks : List Nat} (hk : ∀ k ∈ [1604, 1606, 1607, 1608, 1609, 1610], k ∈ ks) {rc : Int32 → Int32 → Int32 → zM → Option (Int32 × zM)} {m0 : zM} (hrc : ∀ (a b c : Int32) (m : zM), FS ks m0 m → Fr (fun o => FS ks m0 o.2) (rc a b c m)) {v1 : Int32} {v2 : Int32} {v3 : Int32} {mm : zM} (h : FS ks m0 mm) : Fr (fun o => FS ks m0 o.2) (fX6_lookFor rc v1 v2 v3 mm) := by
  unfold fX6_lookFor
  exact (Fr_ite (frX6_lookFor_J15 (fun k h9 => hk k (zss (by decide) k h9)) hrc h) (Fr_ite (Fr_lc (pS := (fun o => FS ks m0 o.2.2)) (pE := (fun o => FS ks m0 o.2)) (pR := (fun o => FS ks m0 o.2)) (fun s hs => frX6_lookFor_L50 (fun k h9 => hk k (zss (by decide) k h9)) hrc hs) (FS_wf (by decide) (hk _ (by decide)) (FS_wf (by decide) (hk _ (by decide)) h)) (fun y5 h_y5 => (Fr_ite (frX6_lookFor_J155 (fun k h9 => hk k (zss (by decide) k h9)) hrc h_y5) (frX6_lookFor_J155 (fun k h9 => hk k (zss (by decide) k h9)) hrc h_y5))) (fun r6 h_r6 => (Fr_some h_r6))) (frX6_lookFor_J15 (fun k h9 => hk k (zss (by decide) k h9)) hrc h)))
theorem frX6_lookFor_n {ks : List Nat} (hk : ∀ k ∈ [1604, 1606, 1607, 1608, 1609, 1610], k ∈ ks) {m0 : zM} : ∀ (n : Nat) (a b c : Int32) (mm : zM), FS ks m0 mm → Fr (fun o => FS ks m0 o.2) (fX6_lookFor_n n a b c mm)
  | 0, _, _, _, _, _ => fun _ h => by cases h
  | n + 1, a, b, c, mm, h => by
    show Fr _ (fX6_lookFor (fX6_lookFor_n n) a b c mm)
    exact frX6_lookFor hk (fun a b c m hm => frX6_lookFor_n hk n a b c m hm) h
theorem frX6_run_J99 {ks : List Nat} (hk : ∀ k ∈ [1605], k ∈ ks) {m0 : zM} {s0 : Int32} {mm : zM} (h : FS ks m0 mm) : Fr (fun o => FS ks m0 o) (fX6_run_J99 s0 mm) := by
  unfold fX6_run_J99
  exact (Fr_some (FS_wf (by decide) (hk _ (by decide)) h))
theorem frX6_run {ks : List Nat} (hk : ∀ k ∈ [106, 1603, 1604, 1605, 1606, 1607, 1608, 1609, 1610], k ∈ ks) {m0 : zM} {v1 : Nat} {v4 : Int32} {v5 : Int32} {mm : zM} (h : FS ks m0 mm) : Fr (fun o => FS ks m0 o) (fX6_run v1 v4 v5 mm) := by
  unfold fX6_run
  exact (Fr_zob (Fr_zob (Fr_ite (Fr_some (FS_wf (by decide) (hk _ (by decide)) (FS_wf (by decide) (hk _ (by decide)) (FS_wf (by decide) (hk _ (by decide)) (FS_wf (by decide) (hk _ (by decide)) (FS_wf (by decide) (hk _ (by decide)) (FS_wf (by decide) (hk _ (by decide)) (FS_wf (by decide) (hk _ (by decide)) (FS_wf (by decide) (hk _ (by decide)) (FS_wf (by decide) (hk _ (by decide)) (FS_wr (hk _ (by decide)) (FS_wr (hk _ (by decide)) (FS_wr (hk _ (by decide)) h))))))))))))) (Fr_bind (frX6_lookFor_n (fun k h9 => hk k (zss (by decide) k h9)) _ _ _ _ _ (FS_wf (by decide) (hk _ (by decide)) (FS_wf (by decide) (hk _ (by decide)) (FS_wf (by decide) (hk _ (by decide)) (FS_wf (by decide) (hk _ (by decide)) (FS_wf (by decide) (hk _ (by decide)) (FS_wf (by decide) (hk _ (by decide)) (FS_wf (by decide) (hk _ (by decide)) (FS_wf (by decide) (hk _ (by decide)) (FS_wr (hk _ (by decide)) (FS_wr (hk _ (by decide)) (FS_wr (hk _ (by decide)) h)))))))))))) (fun x1 h_x1 => (Fr_ite (frX6_run_J99 (fun k h9 => hk k (zss (by decide) k h9)) h_x1) (frX6_run_J99 (fun k h9 => hk k (zss (by decide) k h9)) h_x1)))))))
theorem frX9_runSend {ks : List Nat} (hk : ∀ k ∈ [106, 1603, 1604, 1605, 1606, 1607, 1608, 1609, 1610], k ∈ ks) {m0 : zM} {v1 : Int32} {v2 : Int32} {mm : zM} (h : FS ks m0 mm) : Fr (fun o => FS ks m0 o) (fX9_runSend v1 v2 mm) := by
  unfold fX9_runSend
  exact (Fr_b0 (fun j1 => (Fr_bind (frX6_run (fun k h9 => hk k (zss (by decide) k h9)) h) (fun x2 h_x2 => (Fr_some h_x2)))))
theorem frX9_send {ks : List Nat} (hk : ∀ k ∈ [11, 12, 13, 17, 18, 20, 21, 22, 24, 25, 26, 27, 106, 1209, 1603, 1604, 1605, 1606, 1607, 1608, 1609, 1610, 1912], k ∈ ks) {m0 : zM} {v1 : Int32} {v2 : Int32} {v3 : Int32} {mm : zM} (h : FS ks m0 mm) : Fr (fun o => FS ks m0 o.2) (fX9_send v1 v2 v3 mm) := by
  unfold fX9_send
  exact (Fr_b0 (fun j1 => (Fr_b0 (fun x2 => (Fr_ite (Fr_some h) (Fr_b0 (fun x3 => (Fr_ite (Fr_some h) (Fr_ite (Fr_some h) (Fr_ite (Fr_bind (frX9_settle (fun k h9 => hk k (zss (by decide) k h9)) h) (fun x4 h_x4 => (Fr_bind (frX9_runSend (fun k h9 => hk k (zss (by decide) k h9)) h_x4) (fun x5 h_x5 => (Fr_ite (Fr_some h_x5) (Fr_ite (Fr_some h_x5) (Fr_ite (Fr_some h_x5) (Fr_ite (Fr_some h_x5) (Fr_ite (Fr_some h_x5) (Fr_some h_x5)))))))))) (Fr_some h)))))))))))
theorem frX9_chain_L49 {ks : List Nat} (hk : ∀ k ∈ ([] : List Nat), k ∈ ks) {m0 : zM} {v1 : Int32} {v2 : Int32} {v3 : Int32} {mm : zM} {s : (Int32 × Int32)} (h : FS ks m0 mm) : Fr (Sum.elim (fun _ => True) (Sum.elim (fun _ => True) (fun o => FS ks m0 o.2))) (fX9_chain_L49 v1 v2 v3 mm s) := by
  unfold fX9_chain_L49
  exact (Fr_zob (Fr_ite (Fr_some trivial) (Fr_zob (Fr_zob (Fr_b0 (fun x5 => (Fr_ite (Fr_ite (Fr_some h) (Fr_some trivial)) (Fr_some trivial))))))))
theorem frX9_chain {ks : List Nat} (hk : ∀ k ∈ [11, 12, 13, 17, 18, 20, 21, 22, 24, 25, 26, 27, 1209, 1912], k ∈ ks) {m0 : zM} {v1 : Int32} {v2 : Int32} {v3 : Int32} {mm : zM} (h : FS ks m0 mm) : Fr (fun o => FS ks m0 o.2) (fX9_chain v1 v2 v3 mm) := by
  unfold fX9_chain
  exact (Fr_b0 (fun j1 => (Fr_b0 (fun x2 => (Fr_ite (Fr_some h) (Fr_b0 (fun x3 => (Fr_ite (Fr_some h) (Fr_ite (Fr_bind (frX9_settle (fun k h9 => hk k (zss (by decide) k h9)) h) (fun x4 h_x4 => (Fr_zob (Fr_ite (Fr_some h_x4) (Fr_lc (pS := (fun _ => True)) (pE := (fun _ => True)) (pR := (fun o => FS ks m0 o.2)) (fun s hs => frX9_chain_L49 (fun k h9 => by cases h9) h_x4) trivial (fun y6 h_y6 => (Fr_ite (Fr_some h_x4) (Fr_some h_x4))) (fun r7 h_r7 => (Fr_some h_r7))))))) (Fr_some h))))))))))
theorem frX9_lacks {ks : List Nat} (hk : ∀ k ∈ [11, 12, 13, 17, 18, 20, 21, 22, 24, 25, 26, 27, 1209, 1912], k ∈ ks) {m0 : zM} {v1 : Int32} {mm : zM} (h : FS ks m0 mm) : Fr (fun o => FS ks m0 o.2) (fX9_lacks v1 mm) := by
  unfold fX9_lacks
  exact (Fr_b0 (fun j1 => (Fr_b0 (fun x2 => (Fr_ite (Fr_some h) (Fr_bind (frX9_settle (fun k h9 => hk k (zss (by decide) k h9)) h) (fun x3 h_x3 => (Fr_zob (Fr_ite (Fr_some h_x3) (Fr_b0 (fun x4 => (Fr_some h_x3))))))))))))
theorem frX9_answers_L21 {ks : List Nat} (hk : ∀ k ∈ [106, 1603, 1604, 1605, 1606, 1607, 1608, 1609, 1610], k ∈ ks) {m0 : zM} {v1 : Int32} {s : (Int32 × Int32 × zM)} (h : FS ks m0 s.2.2) : Fr (Sum.elim (fun o => FS ks m0 o.2.2) (Sum.elim (fun o => FS ks m0 o.2) (fun _ => True))) (fX9_answers_L21 v1 s) := by
  unfold fX9_answers_L21
  exact (Fr_ite (Fr_some h) (Fr_bind (frX9_runSend (fun k h9 => hk k (zss (by decide) k h9)) h) (fun x4 h_x4 => (Fr_ite (Fr_some h_x4) (Fr_some h_x4)))))
theorem frX9_answers {ks : List Nat} (hk : ∀ k ∈ [11, 12, 13, 17, 18, 20, 21, 22, 24, 25, 26, 27, 106, 1209, 1603, 1604, 1605, 1606, 1607, 1608, 1609, 1610, 1912], k ∈ ks) {m0 : zM} {v1 : Int32} {mm : zM} (h : FS ks m0 mm) : Fr (fun o => FS ks m0 o.2) (fX9_answers v1 mm) := by
  unfold fX9_answers
  exact (Fr_b0 (fun j1 => (Fr_b0 (fun x2 => (Fr_ite (Fr_some h) (Fr_bind (frX9_settle (fun k h9 => hk k (zss (by decide) k h9)) h) (fun x3 h_x3 => (Fr_lc (pS := (fun o => FS ks m0 o.2.2)) (pE := (fun o => FS ks m0 o.2)) (pR := (fun _ => True)) (fun s hs => frX9_answers_L21 (fun k h9 => hk k (zss (by decide) k h9)) hs) h_x3 (fun y5 h_y5 => (Fr_some h_y5)) (fun r6 h_r6 => (Fr_el r6))))))))))
theorem frX9_alike_L30 {ks : List Nat} (hk : ∀ k ∈ [106, 1603, 1604, 1605, 1606, 1607, 1608, 1609, 1610], k ∈ ks) {m0 : zM} {v1 : Int32} {v2 : Int32} {s : (Int32 × zM)} (h : FS ks m0 s.2) : Fr (Sum.elim (fun o => FS ks m0 o.2) (Sum.elim (fun o => FS ks m0 o) (fun o => FS ks m0 o.2))) (fX9_alike_L30 v1 v2 s) := by
  unfold fX9_alike_L30
  exact (Fr_ite (Fr_some h) (Fr_bind (frX9_runSend (fun k h9 => hk k (zss (by decide) k h9)) h) (fun x6 h_x6 => (Fr_bind (frX9_runSend (fun k h9 => hk k (zss (by decide) k h9)) h_x6) (fun x7 h_x7 => (Fr_ite (Fr_ite (Fr_some h_x7) (Fr_some h_x7)) (Fr_some h_x7)))))))
theorem frX9_alike {ks : List Nat} (hk : ∀ k ∈ [11, 12, 13, 17, 18, 20, 21, 22, 24, 25, 26, 27, 106, 1209, 1603, 1604, 1605, 1606, 1607, 1608, 1609, 1610, 1912], k ∈ ks) {m0 : zM} {v1 : Int32} {v2 : Int32} {mm : zM} (h : FS ks m0 mm) : Fr (fun o => FS ks m0 o.2) (fX9_alike v1 v2 mm) := by
  unfold fX9_alike
  exact (Fr_b0 (fun j1 => (Fr_b0 (fun x2 => (Fr_ite (Fr_some h) (Fr_b0 (fun j3 => (Fr_b0 (fun x4 => (Fr_ite (Fr_some h) (Fr_bind (frX9_settle (fun k h9 => hk k (zss (by decide) k h9)) h) (fun x5 h_x5 => (Fr_lc (pS := (fun o => FS ks m0 o.2)) (pE := (fun o => FS ks m0 o)) (pR := (fun o => FS ks m0 o.2)) (fun s hs => frX9_alike_L30 (fun k h9 => hk k (zss (by decide) k h9)) hs) h_x5 (fun y8 h_y8 => (Fr_some h_y8)) (fun r9 h_r9 => (Fr_some h_r9)))))))))))))))
theorem frX9_origins {ks : List Nat} (hk : ∀ k ∈ [11, 12, 13, 17, 18, 20, 21, 22, 24, 25, 26, 27, 106, 1209, 1603, 1604, 1605, 1606, 1607, 1608, 1609, 1610, 1912], k ∈ ks) {m0 : zM} {v1 : Int32} {v2 : Int32} {mm : zM} (h : FS ks m0 mm) : Fr (fun o => FS ks m0 o.2) (fX9_origins v1 v2 mm) := by
  unfold fX9_origins
  exact (Fr_b0 (fun j1 => (Fr_b0 (fun x2 => (Fr_ite (Fr_some h) (Fr_b0 (fun x3 => (Fr_ite (Fr_some h) (Fr_bind (frX9_settle (fun k h9 => hk k (zss (by decide) k h9)) h) (fun x4 h_x4 => (Fr_bind (frX9_runSend (fun k h9 => hk k (zss (by decide) k h9)) h_x4) (fun x5 h_x5 => (Fr_some h_x5)))))))))))))
theorem frX9_mean_L26 {ks : List Nat} (hk : ∀ k ∈ [106, 1603, 1604, 1605, 1606, 1607, 1608, 1609, 1610], k ∈ ks) {m0 : zM} {v1 : Int32} {s : (Int32 × Int32 × Int32 × zM)} (h : FS ks m0 s.2.2.2) : Fr (Sum.elim (fun o => FS ks m0 o.2.2.2) (Sum.elim (fun o => FS ks m0 o.2.2) (fun _ => True))) (fX9_mean_L26 v1 s) := by
  unfold fX9_mean_L26
  exact (Fr_ite (Fr_some h) (Fr_bind (frX9_runSend (fun k h9 => hk k (zss (by decide) k h9)) h) (fun x4 h_x4 => (Fr_ite (Fr_some h_x4) (Fr_some h_x4)))))
