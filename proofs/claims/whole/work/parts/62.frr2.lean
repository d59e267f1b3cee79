theorem frX10_mean {ks : List Nat} (hk : ∀ k ∈ [44, 45, 46, 47, 48, 49, 50, 51, 2022, 2023, 2024, 2025, 2026, 2027, 2028], k ∈ ks) {m0 : zM} {v1 : Int32} {mm : zM} (h : FS ks m0 mm) : Fr (fun o => FS ks m0 o.2) (fX10_mean v1 mm) := by
  unfold fX10_mean
  exact (Fr_b0 (fun x1 => (Fr_ite (Fr_some h) (Fr_bind (frX10_lays_ (fun k h9 => hk k (zss (by decide) k h9)) h) (fun x2 h_x2 => (Fr_lc (pS := (fun o => FS ks m0 o.2.2.2)) (pE := (fun o => FS ks m0 o.2.2)) (pR := (fun _ => True)) (fun s hs => frX10_mean_L26 (fun k h9 => hk k (zss (by decide) k h9)) hs) h_x2 (fun y5 h_y5 => (Fr_ite (frX10_mean_J99 (fun k h9 => by cases h9) h_y5) (Fr_zob (frX10_mean_J99 (fun k h9 => by cases h9) h_y5)))) (fun r6 h_r6 => (Fr_el r6))))))))
theorem frX10_most {ks : List Nat} (hk : ∀ k ∈ [44, 45, 46, 47, 48, 49, 50, 51], k ∈ ks) {m0 : zM} {v1 : Int32} {mm : zM} (h : FS ks m0 mm) : Fr (fun o => FS ks m0 o.2) (fX10_most v1 mm) := by
  unfold fX10_most
  exact (Fr_bind (frX10_lays_ (fun k h9 => hk k (zss (by decide) k h9)) h) (fun x1 h_x1 => (Fr_lc0 (fun y4 => (Fr_some h_x1)) (fun r5 => (Fr_el r5)))))
theorem frX10_typesSo {ks : List Nat} (hk : ∀ k ∈ [44, 45, 46, 47, 48, 49, 50, 51], k ∈ ks) {m0 : zM} {v1 : Int32} {mm : zM} (h : FS ks m0 mm) : Fr (fun o => FS ks m0 o.2) (fX10_typesSo v1 mm) := by
  unfold fX10_typesSo
  exact (Fr_bind (frX10_lays_ (fun k h9 => hk k (zss (by decide) k h9)) h) (fun x1 h_x1 => (Fr_lc0 (fun y5 => (Fr_some h_x1)) (fun r6 => (Fr_el r6)))))
theorem frX10_count {ks : List Nat} (hk : ∀ k ∈ [44, 45, 46, 47, 48, 49, 50, 51], k ∈ ks) {m0 : zM} {v1 : Int32} {mm : zM} (h : FS ks m0 mm) : Fr (fun o => FS ks m0 o.2) (fX10_count v1 mm) := by
  unfold fX10_count
  exact (Fr_ite (Fr_some h) (Fr_ite (Fr_b0 (fun x9 => (Fr_some h))) (Fr_ite (Fr_b0 (fun x8 => (Fr_some h))) (Fr_ite (Fr_bind (frX10_typesSo (fun k h9 => hk k (zss (by decide) k h9)) h) (fun x7 h_x7 => (Fr_some h_x7))) (Fr_ite (Fr_bind (frX10_typesSo (fun k h9 => hk k (zss (by decide) k h9)) h) (fun x6 h_x6 => (Fr_some h_x6))) (Fr_ite (Fr_bind (frX10_most (fun k h9 => hk k (zss (by decide) k h9)) h) (fun x5 h_x5 => (Fr_some h_x5))) (Fr_ite (Fr_bind (frX10_most (fun k h9 => hk k (zss (by decide) k h9)) h) (fun x4 h_x4 => (Fr_some h_x4))) (Fr_ite (Fr_some h) (Fr_ite (Fr_some h) (Fr_ite (Fr_b0 (fun x2 => (Fr_b0 (fun x3 => (Fr_some h))))) (Fr_ite (Fr_b0 (fun x1 => (Fr_some h))) (Fr_some h))))))))))))
