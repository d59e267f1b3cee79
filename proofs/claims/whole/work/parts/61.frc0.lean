theorem frX9_putBytes_L3 {ks : List Nat} (hk : ∀ k ∈ [36, 1901], k ∈ ks) {m0 : zM} {v1 : Int32} {s : (Int32 × zM)} (h : FS ks m0 s.2) : Fr (Sum.elim (fun o => FS ks m0 o.2) (Sum.elim (fun o => FS ks m0 o) (fun _ => True))) (fX9_putBytes_L3 v1 s) := by
  unfold fX9_putBytes_L3
  exact (Fr_ite (Fr_some h) (Fr_ite (Fr_some h) (Fr_zob (Fr_some (FS_wf (by decide) (hk _ (by decide)) (FS_wa (by decide) (hk _ (by decide)) h))))))
theorem frX9_putBytes {ks : List Nat} (hk : ∀ k ∈ [36, 1901], k ∈ ks) {m0 : zM} {v1 : Int32} {mm : zM} (h : FS ks m0 mm) : Fr (fun o => FS ks m0 o) (fX9_putBytes v1 mm) := by
  unfold fX9_putBytes
  exact (Fr_lc (pS := (fun o => FS ks m0 o.2)) (pE := (fun o => FS ks m0 o)) (pR := (fun _ => True)) (fun s hs => frX9_putBytes_L3 (fun k h9 => hk k (zss (by decide) k h9)) hs) h (fun y1 h_y1 => (Fr_some h_y1)) (fun r2 h_r2 => (Fr_el r2)))
theorem frX9_feed {ks : List Nat} (hk : ∀ k ∈ [36, 1901], k ∈ ks) {m0 : zM} {v1 : Int32} {v2 : Int32} {v3 : Int32} {v4 : Int32} {v5 : Int32} {mm : zM} (h : FS ks m0 mm) : Fr (fun o => FS ks m0 o.2) (fX9_feed v1 v2 v3 v4 v5 mm) := by
  unfold fX9_feed
  exact (Fr_ite (Fr_bind (frX9_putBytes (fun k h9 => hk k (zss (by decide) k h9)) h) (fun x1 h_x1 => (Fr_bind (frX9_putBytes (fun k h9 => hk k (zss (by decide) k h9)) h_x1) (fun x2 h_x2 => (Fr_bind (frX9_putBytes (fun k h9 => hk k (zss (by decide) k h9)) h_x2) (fun x3 h_x3 => (Fr_bind (frX9_putBytes (fun k h9 => hk k (zss (by decide) k h9)) h_x3) (fun x4 h_x4 => (Fr_bind (frX9_putBytes (fun k h9 => hk k (zss (by decide) k h9)) h_x4) (fun x5 h_x5 => (Fr_some h_x5))))))))))) (Fr_some h))
theorem frX9_end {ks : List Nat} (hk : ∀ k ∈ [1901], k ∈ ks) {m0 : zM} {v1 : Int32} {mm : zM} (h : FS ks m0 mm) : Fr (fun o => FS ks m0 o.2) (fX9_end v1 mm) := by
  unfold fX9_end
  exact (Fr_ite (Fr_some h) (Fr_ite (Fr_some (FS_wf (by decide) (hk _ (by decide)) h)) (Fr_some h)))
theorem frX4_pass_L8 {ks : List Nat} (hk : ∀ k ∈ [1402], k ∈ ks) {m0 : zM} {s : zM} (h : FS ks m0 s) : Fr (Sum.elim (fun o => FS ks m0 o) (Sum.elim (fun o => FS ks m0 o) (fun _ => True))) (fX4_pass_L8 s) := by
  unfold fX4_pass_L8
  exact (Fr_ite (Fr_some h) (Fr_zob (Fr_zob (Fr_ite (Fr_some (FS_wf (by decide) (hk _ (by decide)) h)) (Fr_some h)))))
theorem frX4_pass_L134 {ks : List Nat} (hk : ∀ k ∈ [1403], k ∈ ks) {m0 : zM} {v2 : Int32} {v3 : Int32} {s : zM} (h : FS ks m0 s) : Fr (Sum.elim (fun o => FS ks m0 o) (Sum.elim (fun o => FS ks m0 o) (fun _ => True))) (fX4_pass_L134 v2 v3 s) := by
  unfold fX4_pass_L134
  exact (Fr_ite (Fr_some h) (Fr_zob (Fr_zob (Fr_ite (Fr_some h) (Fr_zob (Fr_zob (Fr_ite (Fr_some h) (Fr_some (FS_wf (by decide) (hk _ (by decide)) h)))))))))
theorem frX4_pass_J133 {ks : List Nat} (hk : ∀ k ∈ [1403], k ∈ ks) {m0 : zM} {v2 : Int32} {s0 : Int32} {mm : zM} (h : FS ks m0 mm) : Fr (fun o => FS ks m0 o) (fX4_pass_J133 v2 s0 mm) := by
  unfold fX4_pass_J133
  exact (Fr_lc (pS := (fun o => FS ks m0 o)) (pE := (fun o => FS ks m0 o)) (pR := (fun _ => True)) (fun s hs => frX4_pass_L134 (fun k h9 => hk k (zss (by decide) k h9)) hs) h (fun y3 h_y3 => (Fr_ite (Fr_some (FS_wf (by decide) (hk _ (by decide)) h_y3)) (Fr_some h_y3))) (fun r4 h_r4 => (Fr_el r4)))
theorem frX4_pass_J121 {ks : List Nat} (hk : ∀ k ∈ [1403], k ∈ ks) {m0 : zM} {v1 : Int32} {s0 : Int32} {mm : zM} (h : FS ks m0 mm) : Fr (fun o => FS ks m0 o) (fX4_pass_J121 v1 s0 mm) := by
  unfold fX4_pass_J121
  exact (Fr_ite (frX4_pass_J133 (fun k h9 => hk k (zss (by decide) k h9)) h) (frX4_pass_J133 (fun k h9 => hk k (zss (by decide) k h9)) h))
theorem frX4_pass_J109 {ks : List Nat} (hk : ∀ k ∈ [1403], k ∈ ks) {m0 : zM} {s0 : Int32} {mm : zM} (h : FS ks m0 mm) : Fr (fun o => FS ks m0 o) (fX4_pass_J109 s0 mm) := by
  unfold fX4_pass_J109
  exact (Fr_ite (frX4_pass_J121 (fun k h9 => hk k (zss (by decide) k h9)) h) (frX4_pass_J121 (fun k h9 => hk k (zss (by decide) k h9)) h))
theorem frX4_pass_J108 {ks : List Nat} (hk : ∀ k ∈ [1403], k ∈ ks) {m0 : zM} {mm : zM} (h : FS ks m0 mm) : Fr (fun o => FS ks m0 o) (fX4_pass_J108 mm) := by
  unfold fX4_pass_J108
  exact (frX4_pass_J109 (fun k h9 => hk k (zss (by decide) k h9)) h)
theorem frX4_pass {ks : List Nat} (hk : ∀ k ∈ [1402, 1403, 1404], k ∈ ks) {m0 : zM} {mm : zM} (h : FS ks m0 mm) : Fr (fun o => FS ks m0 o) (fX4_pass mm) := by
  unfold fX4_pass
  exact (Fr_lc (pS := (fun o => FS ks m0 o)) (pE := (fun o => FS ks m0 o)) (pR := (fun _ => True)) (fun s hs => frX4_pass_L8 (fun k h9 => hk k (zss (by decide) k h9)) hs) (FS_wf (by decide) (hk _ (by decide)) h) (fun y1 h_y1 => (Fr_ite (Fr_zob (Fr_zob (Fr_ite (frX4_pass_J108 (fun k h9 => hk k (zss (by decide) k h9)) (FS_wf (by decide) (hk _ (by decide)) (FS_wf (by decide) (hk _ (by decide)) h_y1))) (Fr_ite (frX4_pass_J108 (fun k h9 => hk k (zss (by decide) k h9)) (FS_wf (by decide) (hk _ (by decide)) (FS_wf (by decide) (hk _ (by decide)) h_y1))) (frX4_pass_J109 (fun k h9 => hk k (zss (by decide) k h9)) (FS_wf (by decide) (hk _ (by decide)) (FS_wf (by decide) (hk _ (by decide)) h_y1))))))) (Fr_some (FS_wf (by decide) (hk _ (by decide)) (FS_wf (by decide) (hk _ (by decide)) h_y1))))) (fun r2 h_r2 => (Fr_el r2)))
theorem frJ7_fill_32_L5 {ks : List Nat} (hk : ∀ k ∈ [32], k ∈ ks) {m0 : zM} {v0 : Nat} {v1 : Int32} {v3 : Int32} {s : (Int32 × zM)} (h : FS ks m0 s.2) : Fr (Sum.elim (fun o => FS ks m0 o.2) (Sum.elim (fun o => FS ks m0 o) (fun _ => True))) (fJ7_fill_32_L5 v0 v1 v3 s) := by
  unfold fJ7_fill_32_L5
  exact (Fr_ite (Fr_some h) (Fr_zob (Fr_some (FS_wa (by decide) (hk _ (by decide)) h))))
theorem frJ7_fill_32 {ks : List Nat} (hk : ∀ k ∈ [32], k ∈ ks) {m0 : zM} {v0 : Nat} {v1 : Int32} {mm : zM} (h : FS ks m0 mm) : Fr (fun o => FS ks m0 o) (fJ7_fill_32 v0 v1 mm) := by
  unfold fJ7_fill_32
  exact (Fr_lc (pS := (fun o => FS ks m0 o.2)) (pE := (fun o => FS ks m0 o)) (pR := (fun _ => True)) (fun s hs => frJ7_fill_32_L5 (fun k h9 => hk k (zss (by decide) k h9)) hs) h (fun y1 h_y1 => (Fr_some h_y1)) (fun r2 h_r2 => (Fr_el r2)))
theorem frX7_open {ks : List Nat} (hk : ∀ k ∈ [5, 7, 32], k ∈ ks) {m0 : zM} {v0 : Nat} {v1 : Int32} {v2 : Int32} {mm : zM} (h : FS ks m0 mm) : Fr (fun o => FS ks m0 o) (fX7_open v0 v1 v2 mm) := by
  unfold fX7_open
  exact (Fr_zob (Fr_bind (frJ7_fill_32 (fun k h9 => hk k (zss (by decide) k h9)) (FS_wa (by decide) (hk _ (by decide)) (FS_wa (by decide) (hk _ (by decide)) (FS_wa (by decide) (hk _ (by decide)) (FS_wa (by decide) (hk _ (by decide)) (FS_wa (by decide) (hk _ (by decide)) h)))))) (fun x1 h_x1 => (Fr_some h_x1))))
theorem frX7_require_J18 {ks : List Nat} (hk : ∀ k ∈ [32], k ∈ ks) {m0 : zM} {v0 : Nat} {v1 : Int32} {mm : zM} (h : FS ks m0 mm) : Fr (fun o => FS ks m0 o) (fX7_require_J18 v0 v1 mm) := by
  unfold fX7_require_J18
  exact (Fr_zob (Fr_some (FS_wa (by decide) (hk _ (by decide)) h)))
theorem frX7_require {ks : List Nat} (hk : ∀ k ∈ [7, 32], k ∈ ks) {m0 : zM} {v0 : Nat} {v1 : Int32} {mm : zM} (h : FS ks m0 mm) : Fr (fun o => FS ks m0 o) (fX7_require v0 v1 mm) := by
  unfold fX7_require
  exact (Fr_b0 (fun x1 => (Fr_ite (frX7_require_J18 (fun k h9 => hk k (zss (by decide) k h9)) (FS_wa (by decide) (hk _ (by decide)) h)) (frX7_require_J18 (fun k h9 => hk k (zss (by decide) k h9)) h))))
theorem frX7_addTerm {ks : List Nat} (hk : ∀ k ∈ [32, 33], k ∈ ks) {m0 : zM} {v0 : Nat} {v1 : Int32} {v2 : Int32} {mm : zM} (h : FS ks m0 mm) : Fr (fun o => FS ks m0 o) (fX7_addTerm v0 v1 v2 mm) := by
  unfold fX7_addTerm
  exact (Fr_zob (Fr_ite (Fr_some h) (Fr_ite (Fr_some h) (Fr_zob (Fr_zob (Fr_some (FS_wa (by decide) (hk _ (by decide)) (FS_wa (by decide) (hk _ (by decide)) h))))))))
theorem frX4_refuse {ks : List Nat} (hk : ∀ k ∈ [1405], k ∈ ks) {m0 : zM} {v1 : Int32} {mm : zM} (h : FS ks m0 mm) : Fr (fun o => FS ks m0 o.2) (fX4_refuse v1 mm) := by
  unfold fX4_refuse
  exact (Fr_some (FS_wf (by decide) (hk _ (by decide)) h))
theorem frX4_readTerms_J31 {ks : List Nat} (hk : ∀ k ∈ [1405], k ∈ ks) {m0 : zM} {s0 : Int32} {mm : zM} (h : FS ks m0 mm) : Fr (Sum.elim (fun o => FS ks m0 o.2) (Sum.elim (fun o => FS ks m0 o) (fun o => FS ks m0 o.2))) (fX4_readTerms_J31 s0 mm) := by
  unfold fX4_readTerms_J31
  exact (Fr_bind (frX4_refuse (fun k h9 => hk k (zss (by decide) k h9)) h) (fun x6 h_x6 => (Fr_zob (Fr_some h_x6))))
theorem frX4_readTerms_L2 {ks : List Nat} (hk : ∀ k ∈ [32, 33, 1402, 1403, 1404, 1405], k ∈ ks) {m0 : zM} {v1 : Nat} {v2 : Int32} {s : (Int32 × zM)} (h : FS ks m0 s.2) : Fr (Sum.elim (fun o => FS ks m0 o.2) (Sum.elim (fun o => FS ks m0 o) (fun o => FS ks m0 o.2))) (fX4_readTerms_L2 v1 v2 s) := by
  unfold fX4_readTerms_L2
  exact (Fr_ite (Fr_some h) (Fr_b0 (fun x1 => (Fr_ite (Fr_ite (Fr_bind (frX7_addTerm (fun k h9 => hk k (zss (by decide) k h9)) h) (fun x2 h_x2 => (Fr_bind (frX4_pass (fun k h9 => hk k (zss (by decide) k h9)) h_x2) (fun x3 h_x3 => (Fr_ite (Fr_bind (frX4_pass (fun k h9 => hk k (zss (by decide) k h9)) h_x3) (fun x4 h_x4 => (Fr_some h_x4))) (Fr_some h_x3)))))) (Fr_bind (frX4_refuse (fun k h9 => hk k (zss (by decide) k h9)) h) (fun x5 h_x5 => (Fr_zob (Fr_some h_x5))))) (Fr_ite (frX4_readTerms_J31 (fun k h9 => hk k (zss (by decide) k h9)) h) (frX4_readTerms_J31 (fun k h9 => hk k (zss (by decide) k h9)) h))))))
theorem frX4_readTerms {ks : List Nat} (hk : ∀ k ∈ [32, 33, 1402, 1403, 1404, 1405], k ∈ ks) {m0 : zM} {v1 : Nat} {v2 : Int32} {mm : zM} (h : FS ks m0 mm) : Fr (fun o => FS ks m0 o.2) (fX4_readTerms v1 v2 mm) := by
  unfold fX4_readTerms
  exact (Fr_lc (pS := (fun o => FS ks m0 o.2)) (pE := (fun o => FS ks m0 o)) (pR := (fun o => FS ks m0 o.2)) (fun s hs => frX4_readTerms_L2 (fun k h9 => hk k (zss (by decide) k h9)) hs) h (fun y7 h_y7 => (Fr_some h_y7)) (fun r8 h_r8 => (Fr_some h_r8)))
theorem frX4_readMembers_J111 {ks : List Nat} (hk : ∀ k ∈ [32, 33, 1402, 1403, 1404, 1405], k ∈ ks) {m0 : zM} {v1 : Nat} {v2 : Int32} {v3 : Int32} {v4 : Int32} {mm : zM} (h : FS ks m0 mm) : Fr (Sum.elim (fun o => FS ks m0 o.2) (Sum.elim (fun o => FS ks m0 o) (fun o => FS ks m0 o.2))) (fX4_readMembers_J111 v1 v2 v3 v4 mm) := by
  unfold fX4_readMembers_J111
  exact (Fr_bind (frX4_pass (fun k h9 => hk k (zss (by decide) k h9)) h) (fun x6 h_x6 => (Fr_ite (Fr_some h_x6) (Fr_bind (frX4_readTerms (fun k h9 => hk k (zss (by decide) k h9)) h_x6) (fun x7 h_x7 => (Fr_ite (Fr_some h_x7) (Fr_some h_x7)))))))
theorem frX4_readMembers_J89 {ks : List Nat} (hk : ∀ k ∈ [32, 33, 1402, 1403, 1404, 1405], k ∈ ks) {m0 : zM} {v1 : Nat} {v2 : Int32} {v3 : Int32} {s0 : Int32} {mm : zM} (h : FS ks m0 mm) : Fr (Sum.elim (fun o => FS ks m0 o.2) (Sum.elim (fun o => FS ks m0 o) (fun o => FS ks m0 o.2))) (fX4_readMembers_J89 v1 v2 v3 s0 mm) := by
  unfold fX4_readMembers_J89
  exact (Fr_ite (Fr_ite (frX4_readMembers_J111 (fun k h9 => hk k (zss (by decide) k h9)) h) (Fr_bind (frX4_refuse (fun k h9 => hk k (zss (by decide) k h9)) h) (fun x8 h_x8 => (Fr_zob (Fr_some h_x8))))) (frX4_readMembers_J111 (fun k h9 => hk k (zss (by decide) k h9)) h))
theorem frX4_readMembers_L6 {ks : List Nat} (hk : ∀ k ∈ [7, 32, 33, 1402, 1403, 1404, 1405], k ∈ ks) {m0 : zM} {v1 : Nat} {s : (Int32 × zM)} (h : FS ks m0 s.2) : Fr (Sum.elim (fun o => FS ks m0 o.2) (Sum.elim (fun o => FS ks m0 o) (fun o => FS ks m0 o.2))) (fX4_readMembers_L6 v1 s) := by
  unfold fX4_readMembers_L6
  exact (Fr_ite (Fr_some h) (Fr_b0 (fun x2 => (Fr_ite (Fr_ite (Fr_some h) (Fr_bind (frX4_refuse (fun k h9 => hk k (zss (by decide) k h9)) h) (fun x11 h_x11 => (Fr_ite (Fr_some h_x11) (Fr_some h_x11))))) (Fr_b0 (fun x3 => (Fr_ite (Fr_ite (Fr_bind (frX7_require (fun k h9 => hk k (zss (by decide) k h9)) h) (fun x4 h_x4 => (Fr_bind (frX4_pass (fun k h9 => hk k (zss (by decide) k h9)) h_x4) (fun x5 h_x5 => (Fr_ite (frX4_readMembers_J89 (fun k h9 => hk k (zss (by decide) k h9)) h_x5) (frX4_readMembers_J89 (fun k h9 => hk k (zss (by decide) k h9)) h_x5)))))) (Fr_bind (frX4_refuse (fun k h9 => hk k (zss (by decide) k h9)) h) (fun x9 h_x9 => (Fr_zob (Fr_some h_x9))))) (Fr_bind (frX4_refuse (fun k h9 => hk k (zss (by decide) k h9)) h) (fun x10 h_x10 => (Fr_zob (Fr_some h_x10)))))))))))
theorem frX4_readMembers {ks : List Nat} (hk : ∀ k ∈ [7, 32, 33, 1402, 1403, 1404, 1405], k ∈ ks) {m0 : zM} {v1 : Nat} {mm : zM} (h : FS ks m0 mm) : Fr (fun o => FS ks m0 o.2) (fX4_readMembers v1 mm) := by
  unfold fX4_readMembers
  exact (Fr_bind (frX4_pass (fun k h9 => hk k (zss (by decide) k h9)) h) (fun x1 h_x1 => (Fr_lc (pS := (fun o => FS ks m0 o.2)) (pE := (fun o => FS ks m0 o)) (pR := (fun o => FS ks m0 o.2)) (fun s hs => frX4_readMembers_L6 (fun k h9 => hk k (zss (by decide) k h9)) hs) h_x1 (fun y12 h_y12 => (Fr_some h_y12)) (fun r13 h_r13 => (Fr_some h_r13)))))
theorem frX4_readOfRow_J51 {ks : List Nat} (hk : ∀ k ∈ [1405], k ∈ ks) {m0 : zM} {mm : zM} (h : FS ks m0 mm) : Fr (fun o => FS ks m0 o.2) (fX4_readOfRow_J51 mm) := by
  unfold fX4_readOfRow_J51
  exact (Fr_bind (frX4_refuse (fun k h9 => hk k (zss (by decide) k h9)) h) (fun x6 h_x6 => (Fr_some h_x6)))
theorem frX4_readOfRow_J35 {ks : List Nat} (hk : ∀ k ∈ [1402, 1403, 1404, 1405], k ∈ ks) {m0 : zM} {v1 : Nat} {v3 : Int32} {s0 : Int32} {mm : zM} (h : FS ks m0 mm) : Fr (fun o => FS ks m0 o.2) (fX4_readOfRow_J35 v1 v3 s0 mm) := by
  unfold fX4_readOfRow_J35
  exact (Fr_ite (frX4_readOfRow_J51 (fun k h9 => hk k (zss (by decide) k h9)) h) (Fr_b0 (fun x7 => (Fr_ite (Fr_ite (Fr_bind (frX4_pass (fun k h9 => hk k (zss (by decide) k h9)) h) (fun x8 h_x8 => (Fr_some h_x8))) (Fr_bind (frX4_refuse (fun k h9 => hk k (zss (by decide) k h9)) h) (fun x9 h_x9 => (Fr_some h_x9)))) (frX4_readOfRow_J51 (fun k h9 => hk k (zss (by decide) k h9)) h)))))
theorem frX4_readOfRow {ks : List Nat} (hk : ∀ k ∈ [1402, 1403, 1404, 1405], k ∈ ks) {m0 : zM} {v1 : Nat} {v2 : Int32} {mm : zM} (h : FS ks m0 mm) : Fr (fun o => FS ks m0 o.2) (fX4_readOfRow v1 v2 mm) := by
  unfold fX4_readOfRow
  exact (Fr_b0 (fun j1 => (Fr_b0 (fun x2 => (Fr_b0 (fun x3 => (Fr_ite (Fr_b0 (fun j4 => (Fr_b0 (fun x5 => (frX4_readOfRow_J35 (fun k h9 => hk k (zss (by decide) k h9)) h))))) (Fr_b0 (fun j10 => (Fr_b0 (fun x11 => (frX4_readOfRow_J35 (fun k h9 => hk k (zss (by decide) k h9)) h))))))))))))
theorem frX5_add {ks : List Nat} (hk : ∀ k ∈ [5, 30], k ∈ ks) {m0 : zM} {v0 : Nat} {v1 : Int32} {mm : zM} (h : FS ks m0 mm) : Fr (fun o => FS ks m0 o) (fX5_add v0 v1 mm) := by
  unfold fX5_add
  exact (Fr_ite (Fr_some h) (Fr_zob (Fr_some (FS_wa (by decide) (hk _ (by decide)) (FS_wa (by decide) (hk _ (by decide)) h)))))
theorem frX7_addTrait_L31 {ks : List Nat} (hk : ∀ k ∈ [34], k ∈ ks) {m0 : zM} {v0 : Nat} {v2 : Int32} {s : (Int32 × zM)} (h : FS ks m0 s.2) : Fr (Sum.elim (fun o => FS ks m0 o.2) (Sum.elim (fun o => FS ks m0 o) (fun _ => True))) (fX7_addTrait_L31 v0 v2 s) := by
  unfold fX7_addTrait_L31
  exact (Fr_ite (Fr_some h) (Fr_zob (Fr_some (FS_wa (by decide) (hk _ (by decide)) h))))
theorem frX7_addTrait {ks : List Nat} (hk : ∀ k ∈ [5, 30, 31, 34], k ∈ ks) {m0 : zM} {v0 : Nat} {v1 : Int32} {mm : zM} (h : FS ks m0 mm) : Fr (fun o => FS ks m0 o) (fX7_addTrait v0 v1 mm) := by
  unfold fX7_addTrait
  exact (Fr_ite (Fr_bind (frX5_add (fun k h9 => hk k (zss (by decide) k h9)) h) (fun x1 h_x1 => (Fr_zob (Fr_lc (pS := (fun o => FS ks m0 o.2)) (pE := (fun o => FS ks m0 o)) (pR := (fun _ => True)) (fun s hs => frX7_addTrait_L31 (fun k h9 => hk k (zss (by decide) k h9)) hs) (FS_wa (by decide) (hk _ (by decide)) h_x1) (fun y2 h_y2 => (Fr_some h_y2)) (fun r3 h_r3 => (Fr_el r3)))))) (Fr_some h))
theorem frX7_setLetterThere_J44 {ks : List Nat} (hk : ∀ k ∈ [34], k ∈ ks) {m0 : zM} {v0 : Nat} {v3 : Int32} {v4 : Int32} {mm : zM} (h : FS ks m0 mm) : Fr (fun o => FS ks m0 o) (fX7_setLetterThere_J44 v0 v3 v4 mm) := by
  unfold fX7_setLetterThere_J44
  exact (Fr_zob (Fr_some (FS_wa (by decide) (hk _ (by decide)) h)))
theorem frX7_setLetterThere_J29 {ks : List Nat} (hk : ∀ k ∈ [31, 34], k ∈ ks) {m0 : zM} {v0 : Nat} {v1 : Int32} {v2 : Int32} {v3 : Int32} {v4 : Int32} {mm : zM} (h : FS ks m0 mm) : Fr (fun o => FS ks m0 o) (fX7_setLetterThere_J29 v0 v1 v2 v3 v4 mm) := by
  unfold fX7_setLetterThere_J29
  exact (Fr_ite (frX7_setLetterThere_J44 (fun k h9 => hk k (zss (by decide) k h9)) h) (Fr_zob (Fr_zob (frX7_setLetterThere_J44 (fun k h9 => hk k (zss (by decide) k h9)) (FS_wa (by decide) (hk _ (by decide)) h)))))
theorem frX7_setLetterThere {ks : List Nat} (hk : ∀ k ∈ [31, 34], k ∈ ks) {m0 : zM} {v0 : Nat} {v1 : Int32} {v2 : Int32} {v3 : Int32} {mm : zM} (h : FS ks m0 mm) : Fr (fun o => FS ks m0 o) (fX7_setLetterThere v0 v1 v2 v3 mm) := by
  unfold fX7_setLetterThere
  exact (Fr_zob (Fr_ite (frX7_setLetterThere_J29 (fun k h9 => hk k (zss (by decide) k h9)) h) (Fr_zob (Fr_zob (frX7_setLetterThere_J29 (fun k h9 => hk k (zss (by decide) k h9)) (FS_wa (by decide) (hk _ (by decide)) h))))))
theorem frX4_readChange_J151 {ks : List Nat} (hk : ∀ k ∈ [31, 34], k ∈ ks) {m0 : zM} {v1 : Nat} {v2 : Int32} {v5 : Int32} {v6 : Int32} {mm : zM} (h : FS ks m0 mm) : Fr (fun o => FS ks m0 o.2) (fX4_readChange_J151 v1 v2 v5 v6 mm) := by
  unfold fX4_readChange_J151
  exact (Fr_bind (frX7_setLetterThere (fun k h9 => hk k (zss (by decide) k h9)) h) (fun x4 h_x4 => (Fr_some h_x4)))
theorem frX4_readChange_J37 {ks : List Nat} (hk : ∀ k ∈ [31, 34, 1402, 1403, 1404, 1405, 1406], k ∈ ks) {m0 : zM} {v1 : Nat} {v2 : Int32} {v3 : Int32} {v4 : Int32} {mm : zM} (h : FS ks m0 mm) : Fr (fun o => FS ks m0 o.2) (fX4_readChange_J37 v1 v2 v3 v4 mm) := by
  unfold fX4_readChange_J37
  exact (Fr_b0 (fun x1 => (Fr_ite (Fr_bind (frX4_refuse (fun k h9 => hk k (zss (by decide) k h9)) h) (fun x12 h_x12 => (Fr_zob (Fr_some h_x12)))) (Fr_b0 (fun x2 => (Fr_ite (Fr_ite (Fr_bind (frX4_pass (fun k h9 => hk k (zss (by decide) k h9)) (FS_wf (by decide) (hk _ (by decide)) h)) (fun x3 h_x3 => (Fr_ite (Fr_ite (Fr_bind (frX4_pass (fun k h9 => hk k (zss (by decide) k h9)) h_x3) (fun x5 h_x5 => (Fr_b0 (fun x6 => (Fr_ite (Fr_bind (frX4_refuse (fun k h9 => hk k (zss (by decide) k h9)) h_x5) (fun x8 h_x8 => (Fr_zob (Fr_some h_x8)))) (Fr_bind (frX4_pass (fun k h9 => hk k (zss (by decide) k h9)) h_x5) (fun x7 h_x7 => (frX4_readChange_J151 (fun k h9 => hk k (zss (by decide) k h9)) h_x7)))))))) (Fr_bind (frX4_refuse (fun k h9 => hk k (zss (by decide) k h9)) h_x3) (fun x9 h_x9 => (Fr_zob (Fr_some h_x9))))) (frX4_readChange_J151 (fun k h9 => hk k (zss (by decide) k h9)) h_x3)))) (Fr_bind (frX4_refuse (fun k h9 => hk k (zss (by decide) k h9)) h) (fun x10 h_x10 => (Fr_zob (Fr_some h_x10))))) (Fr_bind (frX4_refuse (fun k h9 => hk k (zss (by decide) k h9)) h) (fun x11 h_x11 => (Fr_zob (Fr_some h_x11))))))))))
theorem frX4_readChange_J14 {ks : List Nat} (hk : ∀ k ∈ [31, 34, 1402, 1403, 1404, 1405, 1406], k ∈ ks) {m0 : zM} {v1 : Nat} {v2 : Int32} {v3 : Int32} {s0 : Int32} {mm : zM} (h : FS ks m0 mm) : Fr (fun o => FS ks m0 o.2) (fX4_readChange_J14 v1 v2 v3 s0 mm) := by
  unfold fX4_readChange_J14
  exact (Fr_ite (frX4_readChange_J37 (fun k h9 => hk k (zss (by decide) k h9)) h) (Fr_ite (Fr_bind (frX4_pass (fun k h9 => hk k (zss (by decide) k h9)) h) (fun x13 h_x13 => (frX4_readChange_J37 (fun k h9 => hk k (zss (by decide) k h9)) h_x13))) (Fr_bind (frX4_refuse (fun k h9 => hk k (zss (by decide) k h9)) h) (fun x14 h_x14 => (Fr_zob (Fr_some h_x14))))))
theorem frX4_readChange {ks : List Nat} (hk : ∀ k ∈ [31, 34, 1402, 1403, 1404, 1405, 1406], k ∈ ks) {m0 : zM} {v1 : Nat} {v2 : Int32} {v3 : Int32} {mm : zM} (h : FS ks m0 mm) : Fr (fun o => FS ks m0 o.2) (fX4_readChange v1 v2 v3 mm) := by
  unfold fX4_readChange
  exact (Fr_ite (frX4_readChange_J14 (fun k h9 => hk k (zss (by decide) k h9)) h) (frX4_readChange_J14 (fun k h9 => hk k (zss (by decide) k h9)) h))
theorem frX4_readChanges_J36 {ks : List Nat} (hk : ∀ k ∈ [31, 34, 1402, 1403, 1404, 1405, 1406], k ∈ ks) {m0 : zM} {v1 : Nat} {v2 : Int32} {v3 : Int32} {mm : zM} (h : FS ks m0 mm) : Fr (Sum.elim (fun o => FS ks m0 o.2) (Sum.elim (fun o => FS ks m0 o) (fun o => FS ks m0 o.2))) (fX4_readChanges_J36 v1 v2 v3 mm) := by
  unfold fX4_readChanges_J36
  exact (Fr_bind (frX4_readChange (fun k h9 => hk k (zss (by decide) k h9)) h) (fun x2 h_x2 => (Fr_ite (Fr_some h_x2) (Fr_some h_x2))))
theorem frX4_readChanges_L11 {ks : List Nat} (hk : ∀ k ∈ [31, 34, 1402, 1403, 1404, 1405, 1406], k ∈ ks) {m0 : zM} {v1 : Nat} {v2 : Int32} {s : (Int32 × zM)} (h : FS ks m0 s.2) : Fr (Sum.elim (fun o => FS ks m0 o.2) (Sum.elim (fun o => FS ks m0 o) (fun o => FS ks m0 o.2))) (fX4_readChanges_L11 v1 v2 s) := by
  unfold fX4_readChanges_L11
  exact (Fr_ite (Fr_some h) (Fr_ite (frX4_readChanges_J36 (fun k h9 => hk k (zss (by decide) k h9)) h) (Fr_ite (Fr_bind (frX4_pass (fun k h9 => hk k (zss (by decide) k h9)) h) (fun x3 h_x3 => (Fr_some h_x3))) (frX4_readChanges_J36 (fun k h9 => hk k (zss (by decide) k h9)) h))))
theorem frX4_readChanges {ks : List Nat} (hk : ∀ k ∈ [31, 34, 1402, 1403, 1404, 1405, 1406], k ∈ ks) {m0 : zM} {v1 : Nat} {v2 : Int32} {mm : zM} (h : FS ks m0 mm) : Fr (fun o => FS ks m0 o.2) (fX4_readChanges v1 v2 mm) := by
  unfold fX4_readChanges
  exact (Fr_bind (frX4_pass (fun k h9 => hk k (zss (by decide) k h9)) h) (fun x1 h_x1 => (Fr_lc (pS := (fun o => FS ks m0 o.2)) (pE := (fun o => FS ks m0 o)) (pR := (fun o => FS ks m0 o.2)) (fun s hs => frX4_readChanges_L11 (fun k h9 => hk k (zss (by decide) k h9)) hs) (FS_wf (by decide) (hk _ (by decide)) h_x1) (fun y4 h_y4 => (Fr_some h_y4)) (fun r5 h_r5 => (Fr_some h_r5)))))
theorem frX4_readTraits_L6 {ks : List Nat} (hk : ∀ k ∈ [5, 30, 31, 34, 1402, 1403, 1404, 1405, 1406], k ∈ ks) {m0 : zM} {v1 : Nat} {s : (Int32 × zM)} (h : FS ks m0 s.2) : Fr (Sum.elim (fun o => FS ks m0 o.2) (Sum.elim (fun o => FS ks m0 o) (fun o => FS ks m0 o.2))) (fX4_readTraits_L6 v1 s) := by
  unfold fX4_readTraits_L6
  exact (Fr_ite (Fr_some h) (Fr_b0 (fun x2 => (Fr_ite (Fr_ite (Fr_some h) (Fr_bind (frX4_refuse (fun k h9 => hk k (zss (by decide) k h9)) h) (fun x6 h_x6 => (Fr_ite (Fr_some h_x6) (Fr_some h_x6))))) (Fr_bind (frX4_readOfRow (fun k h9 => hk k (zss (by decide) k h9)) h) (fun x3 h_x3 => (Fr_ite (Fr_some h_x3) (Fr_bind (frX7_addTrait (fun k h9 => hk k (zss (by decide) k h9)) h_x3) (fun x4 h_x4 => (Fr_ite (Fr_bind (frX4_readChanges (fun k h9 => hk k (zss (by decide) k h9)) h_x4) (fun x5 h_x5 => (Fr_ite (Fr_some h_x5) (Fr_some h_x5)))) (Fr_some h_x4)))))))))))
theorem frX4_readTraits {ks : List Nat} (hk : ∀ k ∈ [5, 30, 31, 34, 1402, 1403, 1404, 1405, 1406], k ∈ ks) {m0 : zM} {v1 : Nat} {mm : zM} (h : FS ks m0 mm) : Fr (fun o => FS ks m0 o.2) (fX4_readTraits v1 mm) := by
  unfold fX4_readTraits
  exact (Fr_bind (frX4_pass (fun k h9 => hk k (zss (by decide) k h9)) h) (fun x1 h_x1 => (Fr_lc (pS := (fun o => FS ks m0 o.2)) (pE := (fun o => FS ks m0 o)) (pR := (fun o => FS ks m0 o.2)) (fun s hs => frX4_readTraits_L6 (fun k h9 => hk k (zss (by decide) k h9)) hs) h_x1 (fun y7 h_y7 => (Fr_some h_y7)) (fun r8 h_r8 => (Fr_some h_r8)))))
theorem frX4_readParents_L6 {ks : List Nat} (hk : ∀ k ∈ [5, 30, 1402, 1403, 1404, 1405], k ∈ ks) {m0 : zM} {v1 : Nat} {s : (Int32 × zM)} (h : FS ks m0 s.2) : Fr (Sum.elim (fun o => FS ks m0 o.2) (Sum.elim (fun o => FS ks m0 o) (fun o => FS ks m0 o.2))) (fX4_readParents_L6 v1 s) := by
  unfold fX4_readParents_L6
  exact (Fr_ite (Fr_some h) (Fr_b0 (fun x2 => (Fr_ite (Fr_ite (Fr_some h) (Fr_bind (frX4_refuse (fun k h9 => hk k (zss (by decide) k h9)) h) (fun x5 h_x5 => (Fr_ite (Fr_some h_x5) (Fr_some h_x5))))) (Fr_bind (frX4_readOfRow (fun k h9 => hk k (zss (by decide) k h9)) h) (fun x3 h_x3 => (Fr_ite (Fr_some h_x3) (Fr_bind (frX5_add (fun k h9 => hk k (zss (by decide) k h9)) h_x3) (fun x4 h_x4 => (Fr_some h_x4))))))))))
theorem frX4_readParents {ks : List Nat} (hk : ∀ k ∈ [5, 30, 1402, 1403, 1404, 1405], k ∈ ks) {m0 : zM} {v1 : Nat} {mm : zM} (h : FS ks m0 mm) : Fr (fun o => FS ks m0 o.2) (fX4_readParents v1 mm) := by
  unfold fX4_readParents
  exact (Fr_bind (frX4_pass (fun k h9 => hk k (zss (by decide) k h9)) h) (fun x1 h_x1 => (Fr_lc (pS := (fun o => FS ks m0 o.2)) (pE := (fun o => FS ks m0 o)) (pR := (fun o => FS ks m0 o.2)) (fun s hs => frX4_readParents_L6 (fun k h9 => hk k (zss (by decide) k h9)) hs) h_x1 (fun y6 h_y6 => (Fr_some h_y6)) (fun r7 h_r7 => (Fr_some h_r7)))))
theorem frX4_readUnit_J192 {ks : List Nat} (hk : ∀ k ∈ [8], k ∈ ks) {m0 : zM} {s0 : Int32} {mm : zM} (h : FS ks m0 mm) : Fr (fun o => FS ks m0 o.2) (fX4_readUnit_J192 s0 mm) := by
  unfold fX4_readUnit_J192
  exact (Fr_ite (Fr_zob (Fr_some h)) (Fr_b0 (fun j11 => (Fr_zob (Fr_some (FS_wa (by decide) (hk _ (by decide)) h))))))
theorem frX4_readUnit_J191 {ks : List Nat} (hk : ∀ k ∈ [8], k ∈ ks) {m0 : zM} {mm : zM} (h : FS ks m0 mm) : Fr (fun o => FS ks m0 o.2) (fX4_readUnit_J191 mm) := by
  unfold fX4_readUnit_J191
  exact (frX4_readUnit_J192 (fun k h9 => hk k (zss (by decide) k h9)) h)
theorem frX4_readUnit_J187 {ks : List Nat} (hk : ∀ k ∈ [8], k ∈ ks) {m0 : zM} {mm : zM} (h : FS ks m0 mm) : Fr (fun o => FS ks m0 o.2) (fX4_readUnit_J187 mm) := by
  unfold fX4_readUnit_J187
  exact (frX4_readUnit_J192 (fun k h9 => hk k (zss (by decide) k h9)) h)
theorem frX4_readUnit_J163 {ks : List Nat} (hk : ∀ k ∈ [7, 8, 32, 33, 1402, 1403, 1404, 1405], k ∈ ks) {m0 : zM} {v3 : Nat} {s0 : Int32} {mm : zM} (h : FS ks m0 mm) : Fr (fun o => FS ks m0 o.2) (fX4_readUnit_J163 v3 s0 mm) := by
  unfold fX4_readUnit_J163
  exact (Fr_ite (frX4_readUnit_J191 (fun k h9 => hk k (zss (by decide) k h9)) h) (Fr_ite (Fr_bind (frX4_readMembers (fun k h9 => hk k (zss (by decide) k h9)) h) (fun x12 h_x12 => (Fr_ite (frX4_readUnit_J191 (fun k h9 => hk k (zss (by decide) k h9)) h_x12) (frX4_readUnit_J187 (fun k h9 => hk k (zss (by decide) k h9)) h_x12)))) (frX4_readUnit_J187 (fun k h9 => hk k (zss (by decide) k h9)) h)))
theorem frX4_readUnit_J162 {ks : List Nat} (hk : ∀ k ∈ [7, 8, 32, 33, 1402, 1403, 1404, 1405], k ∈ ks) {m0 : zM} {v3 : Nat} {mm : zM} (h : FS ks m0 mm) : Fr (fun o => FS ks m0 o.2) (fX4_readUnit_J162 v3 mm) := by
  unfold fX4_readUnit_J162
  exact (frX4_readUnit_J163 (fun k h9 => hk k (zss (by decide) k h9)) h)
theorem frX4_readUnit_J158 {ks : List Nat} (hk : ∀ k ∈ [7, 8, 32, 33, 1402, 1403, 1404, 1405], k ∈ ks) {m0 : zM} {v3 : Nat} {mm : zM} (h : FS ks m0 mm) : Fr (fun o => FS ks m0 o.2) (fX4_readUnit_J158 v3 mm) := by
  unfold fX4_readUnit_J158
  exact (frX4_readUnit_J163 (fun k h9 => hk k (zss (by decide) k h9)) h)
theorem frX4_readUnit_J134 {ks : List Nat} (hk : ∀ k ∈ [5, 7, 8, 30, 31, 32, 33, 34, 1402, 1403, 1404, 1405, 1406], k ∈ ks) {m0 : zM} {v3 : Nat} {s0 : Int32} {mm : zM} (h : FS ks m0 mm) : Fr (fun o => FS ks m0 o.2) (fX4_readUnit_J134 v3 s0 mm) := by
  unfold fX4_readUnit_J134
  exact (Fr_ite (frX4_readUnit_J162 (fun k h9 => hk k (zss (by decide) k h9)) h) (Fr_b0 (fun x13 => (Fr_ite (frX4_readUnit_J158 (fun k h9 => hk k (zss (by decide) k h9)) h) (Fr_bind (frX4_readTraits (fun k h9 => hk k (zss (by decide) k h9)) h) (fun x14 h_x14 => (Fr_ite (frX4_readUnit_J162 (fun k h9 => hk k (zss (by decide) k h9)) h_x14) (frX4_readUnit_J158 (fun k h9 => hk k (zss (by decide) k h9)) h_x14))))))))
theorem frX4_readUnit_J129 {ks : List Nat} (hk : ∀ k ∈ [5, 7, 8, 30, 31, 32, 33, 34, 1402, 1403, 1404, 1405, 1406], k ∈ ks) {m0 : zM} {v3 : Nat} {mm : zM} (h : FS ks m0 mm) : Fr (fun o => FS ks m0 o.2) (fX4_readUnit_J129 v3 mm) := by
  unfold fX4_readUnit_J129
  exact (frX4_readUnit_J134 (fun k h9 => hk k (zss (by decide) k h9)) h)
theorem frX4_readUnit_J26 {ks : List Nat} (hk : ∀ k ∈ [5, 7, 8, 30, 31, 32, 33, 34, 1402, 1403, 1404, 1405, 1406], k ∈ ks) {m0 : zM} {v1 : Int32} {mm : zM} (h : FS ks m0 mm) : Fr (fun o => FS ks m0 o.2) (fX4_readUnit_J26 v1 mm) := by
  unfold fX4_readUnit_J26
  exact (Fr_b0 (fun j2 => (Fr_ite (Fr_bind (frX4_pass (fun k h9 => hk k (zss (by decide) k h9)) h) (fun x3 h_x3 => (Fr_b0 (fun x4 => (Fr_ite (Fr_bind (frX4_refuse (fun k h9 => hk k (zss (by decide) k h9)) h_x3) (fun x18 h_x18 => (Fr_zob (Fr_some h_x18)))) (Fr_b0 (fun j5 => (Fr_b0 (fun x6 => (Fr_ite (Fr_bind (frX4_pass (fun k h9 => hk k (zss (by decide) k h9)) h_x3) (fun x7 h_x7 => (Fr_b0 (fun j8 => (Fr_b0 (fun j9 => (Fr_zob (Fr_bind (frX7_open (fun k h9 => hk k (zss (by decide) k h9)) h_x7) (fun x10 h_x10 => (Fr_ite (Fr_b0 (fun x15 => (Fr_ite (frX4_readUnit_J129 (fun k h9 => hk k (zss (by decide) k h9)) h_x10) (Fr_bind (frX4_readParents (fun k h9 => hk k (zss (by decide) k h9)) h_x10) (fun x16 h_x16 => (Fr_ite (frX4_readUnit_J134 (fun k h9 => hk k (zss (by decide) k h9)) h_x16) (frX4_readUnit_J129 (fun k h9 => hk k (zss (by decide) k h9)) h_x16))))))) (frX4_readUnit_J129 (fun k h9 => hk k (zss (by decide) k h9)) h_x10))))))))))) (Fr_bind (frX4_refuse (fun k h9 => hk k (zss (by decide) k h9)) h_x3) (fun x17 h_x17 => (Fr_zob (Fr_some h_x17)))))))))))))) (Fr_bind (frX4_refuse (fun k h9 => hk k (zss (by decide) k h9)) h) (fun x19 h_x19 => (Fr_zob (Fr_some h_x19)))))))
theorem frX4_readUnit {ks : List Nat} (hk : ∀ k ∈ [5, 7, 8, 30, 31, 32, 33, 34, 1402, 1403, 1404, 1405, 1406], k ∈ ks) {m0 : zM} {mm : zM} (h : FS ks m0 mm) : Fr (fun o => FS ks m0 o.2) (fX4_readUnit mm) := by
  unfold fX4_readUnit
  exact (Fr_b0 (fun x1 => (Fr_ite (Fr_b0 (fun x20 => (Fr_ite (Fr_bind (frX4_refuse (fun k h9 => hk k (zss (by decide) k h9)) h) (fun x21 h_x21 => (Fr_zob (Fr_some h_x21)))) (frX4_readUnit_J26 (fun k h9 => hk k (zss (by decide) k h9)) h)))) (frX4_readUnit_J26 (fun k h9 => hk k (zss (by decide) k h9)) h))))
theorem frX4_readBreak {ks : List Nat} (hk : ∀ k ∈ [1402, 1403, 1404, 1405], k ∈ ks) {m0 : zM} {mm : zM} (h : FS ks m0 mm) : Fr (fun o => FS ks m0 o.2) (fX4_readBreak mm) := by
  unfold fX4_readBreak
  exact (Fr_ite (Fr_bind (frX4_pass (fun k h9 => hk k (zss (by decide) k h9)) h) (fun x1 h_x1 => (Fr_some h_x1))) (Fr_bind (frX4_refuse (fun k h9 => hk k (zss (by decide) k h9)) h) (fun x2 h_x2 => (Fr_zob (Fr_some h_x2)))))
theorem frX4_read_36_L66 {ks : List Nat} (hk : ∀ k ∈ [5, 7, 8, 30, 31, 32, 33, 34, 1402, 1403, 1404, 1405, 1406], k ∈ ks) {m0 : zM} {s : (Int32 × Int32 × zM)} (h : FS ks m0 s.2.2) : Fr (Sum.elim (fun o => FS ks m0 o.2.2) (Sum.elim (fun o => FS ks m0 o) (fun _ => True))) (fX4_read_36_L66 s) := by
  unfold fX4_read_36_L66
  exact (Fr_ite (Fr_some h) (Fr_ite (Fr_some h) (Fr_bind (frX4_readUnit (fun k h9 => hk k (zss (by decide) k h9)) h) (fun x3 h_x3 => (Fr_ite (Fr_some h_x3) (Fr_ite (Fr_some h_x3) (Fr_bind (frX4_readBreak (fun k h9 => hk k (zss (by decide) k h9)) h_x3) (fun x4 h_x4 => (Fr_ite (Fr_some h_x4) (Fr_some h_x4))))))))))
theorem frX4_read_36_J61 {ks : List Nat} (hk : ∀ k ∈ [5, 7, 8, 30, 31, 32, 33, 34, 1402, 1403, 1404, 1405, 1406], k ∈ ks) {m0 : zM} {s0 : Int32} {mm : zM} (h : FS ks m0 mm) : Fr (fun o => FS ks m0 o.2) (fX4_read_36_J61 s0 mm) := by
  unfold fX4_read_36_J61
  exact (Fr_lc (pS := (fun o => FS ks m0 o.2.2)) (pE := (fun o => FS ks m0 o)) (pR := (fun _ => True)) (fun s hs => frX4_read_36_L66 (fun k h9 => hk k (zss (by decide) k h9)) hs) h (fun y5 h_y5 => (Fr_some h_y5)) (fun r6 h_r6 => (Fr_el r6)))
theorem frX4_read_36 {ks : List Nat} (hk : ∀ k ∈ [5, 7, 8, 30, 31, 32, 33, 34, 104, 1401, 1402, 1403, 1404, 1405, 1406], k ∈ ks) {m0 : zM} {v2 : Int32} {v3 : Nat} {mm : zM} (h : FS ks m0 mm) : Fr (fun o => FS ks m0 o.2) (fX4_read_36 v2 v3 mm) := by
  unfold fX4_read_36
  exact (Fr_zob (Fr_b0 (fun j1 => (Fr_bind (frX4_pass (fun k h9 => hk k (zss (by decide) k h9)) (FS_wf (by decide) (hk _ (by decide)) (FS_wf (by decide) (hk _ (by decide)) (FS_wa (by decide) (hk _ (by decide)) (FS_wr (hk _ (by decide)) (FS_wf (by decide) (hk _ (by decide)) (FS_wr (hk _ (by decide)) h))))))) (fun x2 h_x2 => (Fr_ite (frX4_read_36_J61 (fun k h9 => hk k (zss (by decide) k h9)) h_x2) (frX4_read_36_J61 (fun k h9 => hk k (zss (by decide) k h9)) h_x2)))))))
theorem frX1_forgetAll {ks : List Nat} (hk : ∀ k ∈ [1103], k ∈ ks) {m0 : zM} {mm : zM} (h : FS ks m0 mm) : Fr (fun o => FS ks m0 o) (fX1_forgetAll mm) := by
  unfold fX1_forgetAll
  exact (Fr_some (FS_wf (by decide) (hk _ (by decide)) h))
theorem frX9_startAnew {ks : List Nat} (hk : ∀ k ∈ [1103, 1912], k ∈ ks) {m0 : zM} {mm : zM} (h : FS ks m0 mm) : Fr (fun o => FS ks m0 o) (fX9_startAnew mm) := by
  unfold fX9_startAnew
  exact (Fr_bind (frX1_forgetAll (fun k h9 => hk k (zss (by decide) k h9)) h) (fun x1 h_x1 => (Fr_some (FS_wf (by decide) (hk _ (by decide)) h_x1))))
theorem frX9_tell {ks : List Nat} (hk : ∀ k ∈ [5, 7, 8, 30, 31, 32, 33, 34, 104, 109, 1103, 1401, 1402, 1403, 1404, 1405, 1406, 1901, 1912], k ∈ ks) {m0 : zM} {mm : zM} (h : FS ks m0 mm) : Fr (fun o => FS ks m0 o.2) (fX9_tell mm) := by
  unfold fX9_tell
  exact (Fr_b0 (fun j1 => (Fr_bind (frX4_read_36 (fun k h9 => hk k (zss (by decide) k h9)) h) (fun x2 h_x2 => (Fr_ite (Fr_b0 (fun j3 => (Fr_b0 (fun j4 => (Fr_bind (frX9_startAnew (fun k h9 => hk k (zss (by decide) k h9)) (FS_wr (hk _ (by decide)) (FS_wr (hk _ (by decide)) (FS_wf (by decide) (hk _ (by decide)) h_x2)))) (fun x5 h_x5 => (Fr_b0 (fun j6 => (Fr_some h_x5))))))))) (Fr_some (FS_wf (by decide) (hk _ (by decide)) h_x2)))))))
theorem frX5_copyFrom {ks : List Nat} (hk : ∀ k ∈ [5, 30], k ∈ ks) {m0 : zM} {v0 : Nat} {v1 : Nat} {mm : zM} (h : FS ks m0 mm) : Fr (fun o => FS ks m0 o) (fX5_copyFrom v0 v1 mm) := by
  unfold fX5_copyFrom
  exact (Fr_zob (Fr_some (FS_wa (by decide) (hk _ (by decide)) (FS_zcp (by decide) (hk _ (by decide)) h))))
theorem frX7_copyFrom {ks : List Nat} (hk : ∀ k ∈ [5, 7, 30, 31, 32, 33, 34], k ∈ ks) {m0 : zM} {v0 : Nat} {v1 : Nat} {mm : zM} (h : FS ks m0 mm) : Fr (fun o => FS ks m0 o) (fX7_copyFrom v0 v1 mm) := by
  unfold fX7_copyFrom
  exact (Fr_zob (Fr_bind (frX5_copyFrom (fun k h9 => hk k (zss (by decide) k h9)) (FS_wa (by decide) (hk _ (by decide)) (FS_wa (by decide) (hk _ (by decide)) (FS_wa (by decide) (hk _ (by decide)) h)))) (fun x1 h_x1 => (Fr_bind (frX5_copyFrom (fun k h9 => hk k (zss (by decide) k h9)) h_x1) (fun x2 h_x2 => (Fr_zob (Fr_zob (Fr_zob (Fr_zob (Fr_some (FS_zcp (by decide) (hk _ (by decide)) (FS_zcp (by decide) (hk _ (by decide)) (FS_zcp (by decide) (hk _ (by decide)) (FS_zcp (by decide) (hk _ (by decide)) h_x2))))))))))))))
theorem frX1_record {ks : List Nat} (hk : ∀ k ∈ [5, 7, 15, 30, 31, 32, 33, 34, 1102, 1103], k ∈ ks) {m0 : zM} {v1 : Int32} {v2 : Nat} {mm : zM} (h : FS ks m0 mm) : Fr (fun o => FS ks m0 o) (fX1_record v1 v2 mm) := by
  unfold fX1_record
  exact (Fr_zob (Fr_bind (frX7_copyFrom (fun k h9 => hk k (zss (by decide) k h9)) h) (fun x1 h_x1 => (Fr_zob (Fr_some (FS_wf (by decide) (hk _ (by decide)) (FS_wf (by decide) (hk _ (by decide)) (FS_wa (by decide) (hk _ (by decide)) h_x1))))))))
theorem frX9_beginAct {ks : List Nat} (hk : ∀ k ∈ [5, 7, 15, 30, 31, 32, 33, 34, 1102, 1103, 1912], k ∈ ks) {m0 : zM} {v1 : Int32} {mm : zM} (h : FS ks m0 mm) : Fr (fun o => FS ks m0 o) (fX9_beginAct v1 mm) := by
  unfold fX9_beginAct
  exact (Fr_b0 (fun j1 => (Fr_zob (Fr_bind (frX1_record (fun k h9 => hk k (zss (by decide) k h9)) h) (fun x2 h_x2 => (Fr_some (FS_wf (by decide) (hk _ (by decide)) h_x2)))))))
theorem frX9_join {ks : List Nat} (hk : ∀ k ∈ [5, 7, 15, 30, 31, 32, 33, 34, 1102, 1103, 1912], k ∈ ks) {m0 : zM} {v1 : Int32} {v2 : Int32} {mm : zM} (h : FS ks m0 mm) : Fr (fun o => FS ks m0 o.2) (fX9_join v1 v2 mm) := by
  unfold fX9_join
  exact (Fr_b0 (fun j1 => (Fr_b0 (fun x2 => (Fr_ite (Fr_some h) (Fr_b0 (fun j3 => (Fr_b0 (fun x4 => (Fr_ite (Fr_some h) (Fr_ite (Fr_b0 (fun j5 => (Fr_zob (Fr_b0 (fun x6 => (Fr_ite (Fr_ite (Fr_bind (frX9_beginAct (fun k h9 => hk k (zss (by decide) k h9)) h) (fun x7 h_x7 => (Fr_bind (frX5_add (fun k h9 => hk k (zss (by decide) k h9)) h_x7) (fun x8 h_x8 => (Fr_some h_x8))))) (Fr_some h)) (Fr_some h))))))) (Fr_some h))))))))))))
theorem frX5_removeAt_L17 {ks : List Nat} (hk : ∀ k ∈ [30], k ∈ ks) {m0 : zM} {v0 : Nat} {s : (Int32 × zM)} (h : FS ks m0 s.2) : Fr (Sum.elim (fun o => FS ks m0 o.2) (Sum.elim (fun o => FS ks m0 o) (fun _ => True))) (fX5_removeAt_L17 v0 s) := by
  unfold fX5_removeAt_L17
  exact (Fr_ite (Fr_some h) (Fr_zob (Fr_zob (Fr_some (FS_wa (by decide) (hk _ (by decide)) h)))))
theorem frX5_removeAt {ks : List Nat} (hk : ∀ k ∈ [5, 30], k ∈ ks) {m0 : zM} {v0 : Nat} {v1 : Int32} {mm : zM} (h : FS ks m0 mm) : Fr (fun o => FS ks m0 o) (fX5_removeAt v0 v1 mm) := by
  unfold fX5_removeAt
  exact (Fr_ite (Fr_some h) (Fr_ite (Fr_lc (pS := (fun o => FS ks m0 o.2)) (pE := (fun o => FS ks m0 o)) (pR := (fun _ => True)) (fun s hs => frX5_removeAt_L17 (fun k h9 => hk k (zss (by decide) k h9)) hs) h (fun y1 h_y1 => (Fr_some (FS_wa (by decide) (hk _ (by decide)) h_y1))) (fun r2 h_r2 => (Fr_el r2))) (Fr_some h)))
theorem frX9_leave {ks : List Nat} (hk : ∀ k ∈ [5, 7, 15, 30, 31, 32, 33, 34, 1102, 1103, 1912], k ∈ ks) {m0 : zM} {v1 : Int32} {v2 : Int32} {mm : zM} (h : FS ks m0 mm) : Fr (fun o => FS ks m0 o.2) (fX9_leave v1 v2 mm) := by
  unfold fX9_leave
  exact (Fr_b0 (fun j1 => (Fr_b0 (fun x2 => (Fr_ite (Fr_some h) (Fr_b0 (fun j3 => (Fr_zob (Fr_b0 (fun x4 => (Fr_ite (Fr_some h) (Fr_bind (frX9_beginAct (fun k h9 => hk k (zss (by decide) k h9)) h) (fun x5 h_x5 => (Fr_bind (frX5_removeAt (fun k h9 => hk k (zss (by decide) k h9)) h_x5) (fun x6 h_x6 => (Fr_some h_x6))))))))))))))))
theorem frX5_reverse_L9 {ks : List Nat} (hk : ∀ k ∈ [30], k ∈ ks) {m0 : zM} {v0 : Nat} {s : (Int32 × Int32 × zM)} (h : FS ks m0 s.2.2) : Fr (Sum.elim (fun o => FS ks m0 o.2.2) (Sum.elim (fun o => FS ks m0 o) (fun _ => True))) (fX5_reverse_L9 v0 s) := by
  unfold fX5_reverse_L9
  exact (Fr_ite (Fr_some h) (Fr_zob (Fr_zob (Fr_zob (Fr_zob (Fr_some (FS_wa (by decide) (hk _ (by decide)) (FS_wa (by decide) (hk _ (by decide)) h))))))))
theorem frX5_reverse {ks : List Nat} (hk : ∀ k ∈ [30], k ∈ ks) {m0 : zM} {v0 : Nat} {mm : zM} (h : FS ks m0 mm) : Fr (fun o => FS ks m0 o) (fX5_reverse v0 mm) := by
  unfold fX5_reverse
  exact (Fr_lc (pS := (fun o => FS ks m0 o.2.2)) (pE := (fun o => FS ks m0 o)) (pR := (fun _ => True)) (fun s hs => frX5_reverse_L9 (fun k h9 => hk k (zss (by decide) k h9)) hs) h (fun y1 h_y1 => (Fr_some h_y1)) (fun r2 h_r2 => (Fr_el r2)))
theorem frX9_turn {ks : List Nat} (hk : ∀ k ∈ [5, 7, 15, 30, 31, 32, 33, 34, 1102, 1103, 1912], k ∈ ks) {m0 : zM} {v1 : Int32} {mm : zM} (h : FS ks m0 mm) : Fr (fun o => FS ks m0 o.2) (fX9_turn v1 mm) := by
  unfold fX9_turn
  exact (Fr_b0 (fun j1 => (Fr_b0 (fun x2 => (Fr_ite (Fr_some h) (Fr_b0 (fun j3 => (Fr_zob (Fr_ite (Fr_bind (frX9_beginAct (fun k h9 => hk k (zss (by decide) k h9)) h) (fun x4 h_x4 => (Fr_bind (frX5_reverse (fun k h9 => hk k (zss (by decide) k h9)) h_x4) (fun x5 h_x5 => (Fr_some h_x5))))) (Fr_some h))))))))))
theorem frX9_beginMember_J34 {ks : List Nat} (hk : ∀ k ∈ [5, 7, 15, 30, 31, 32, 33, 34, 1102, 1103, 1912], k ∈ ks) {m0 : zM} {v1 : Int32} {v2 : Int32} {v3 : Nat} {v4 : Int32} {mm : zM} (h : FS ks m0 mm) : Fr (fun o => FS ks m0 o.2) (fX9_beginMember_J34 v1 v2 v3 v4 mm) := by
  unfold fX9_beginMember_J34
  exact (Fr_bind (frX9_beginAct (fun k h9 => hk k (zss (by decide) k h9)) h) (fun x3 h_x3 => (Fr_bind (frX7_require (fun k h9 => hk k (zss (by decide) k h9)) h_x3) (fun x4 h_x4 => (Fr_ite (Fr_some h_x4) (Fr_some h_x4))))))
theorem frX9_beginMember {ks : List Nat} (hk : ∀ k ∈ [5, 7, 15, 30, 31, 32, 33, 34, 1102, 1103, 1912], k ∈ ks) {m0 : zM} {v1 : Int32} {v2 : Int32} {mm : zM} (h : FS ks m0 mm) : Fr (fun o => FS ks m0 o.2) (fX9_beginMember v1 v2 mm) := by
  unfold fX9_beginMember
  exact (Fr_b0 (fun j1 => (Fr_zob (Fr_b0 (fun x2 => (Fr_ite (Fr_ite (frX9_beginMember_J34 (fun k h9 => hk k (zss (by decide) k h9)) h) (Fr_some h)) (frX9_beginMember_J34 (fun k h9 => hk k (zss (by decide) k h9)) h)))))))
theorem frX9_give_J87 {ks : List Nat} (hk : ∀ k ∈ [32, 33], k ∈ ks) {m0 : zM} {v2 : Int32} {v3 : Int32} {v4 : Nat} {s0 : Int32} {mm : zM} (h : FS ks m0 mm) : Fr (fun o => FS ks m0 o.2) (fX9_give_J87 v2 v3 v4 s0 mm) := by
  unfold fX9_give_J87
  exact (Fr_ite (Fr_some h) (Fr_bind (frX7_addTerm (fun k h9 => hk k (zss (by decide) k h9)) h) (fun x6 h_x6 => (Fr_some h_x6))))
theorem frX9_give_J69 {ks : List Nat} (hk : ∀ k ∈ [5, 7, 15, 30, 31, 32, 33, 34, 1102, 1103, 1912], k ∈ ks) {m0 : zM} {v1 : Int32} {v2 : Int32} {v3 : Int32} {v4 : Nat} {s0 : Int32} {mm : zM} (h : FS ks m0 mm) : Fr (fun o => FS ks m0 o.2) (fX9_give_J69 v1 v2 v3 v4 s0 mm) := by
  unfold fX9_give_J69
  exact (Fr_ite (Fr_bind (frX9_beginMember (fun k h9 => hk k (zss (by decide) k h9)) h) (fun x5 h_x5 => (frX9_give_J87 (fun k h9 => hk k (zss (by decide) k h9)) h_x5))) (frX9_give_J87 (fun k h9 => hk k (zss (by decide) k h9)) h))
theorem frX9_give_J68 {ks : List Nat} (hk : ∀ k ∈ [5, 7, 15, 30, 31, 32, 33, 34, 1102, 1103, 1912], k ∈ ks) {m0 : zM} {v1 : Int32} {v2 : Int32} {v3 : Int32} {v4 : Nat} {mm : zM} (h : FS ks m0 mm) : Fr (fun o => FS ks m0 o.2) (fX9_give_J68 v1 v2 v3 v4 mm) := by
  unfold fX9_give_J68
  exact (frX9_give_J69 (fun k h9 => hk k (zss (by decide) k h9)) h)
theorem frX9_give {ks : List Nat} (hk : ∀ k ∈ [5, 7, 15, 30, 31, 32, 33, 34, 1102, 1103, 1912], k ∈ ks) {m0 : zM} {v1 : Int32} {v2 : Int32} {v3 : Int32} {mm : zM} (h : FS ks m0 mm) : Fr (fun o => FS ks m0 o.2) (fX9_give v1 v2 v3 mm) := by
  unfold fX9_give
  exact (Fr_b0 (fun j1 => (Fr_b0 (fun x2 => (Fr_ite (Fr_some h) (Fr_b0 (fun x3 => (Fr_ite (Fr_some h) (Fr_ite (Fr_some h) (Fr_ite (Fr_b0 (fun j4 => (Fr_zob (Fr_zob (Fr_ite (Fr_b0 (fun x7 => (Fr_ite (frX9_give_J69 (fun k h9 => hk k (zss (by decide) k h9)) h) (frX9_give_J68 (fun k h9 => hk k (zss (by decide) k h9)) h)))) (frX9_give_J68 (fun k h9 => hk k (zss (by decide) k h9)) h)))))) (Fr_some h)))))))))))
theorem frX9_need {ks : List Nat} (hk : ∀ k ∈ [5, 7, 15, 30, 31, 32, 33, 34, 1102, 1103, 1912], k ∈ ks) {m0 : zM} {v1 : Int32} {v2 : Int32} {mm : zM} (h : FS ks m0 mm) : Fr (fun o => FS ks m0 o.2) (fX9_need v1 v2 mm) := by
  unfold fX9_need
  exact (Fr_b0 (fun j1 => (Fr_b0 (fun x2 => (Fr_ite (Fr_some h) (Fr_b0 (fun x3 => (Fr_ite (Fr_some h) (Fr_b0 (fun j4 => (Fr_zob (Fr_b0 (fun x5 => (Fr_ite (Fr_bind (frX9_beginMember (fun k h9 => hk k (zss (by decide) k h9)) h) (fun x6 h_x6 => (Fr_some h_x6))) (Fr_some h)))))))))))))))
theorem frX7_forget_J18 {ks : List Nat} (hk : ∀ k ∈ [32], k ∈ ks) {m0 : zM} {v0 : Nat} {v1 : Int32} {mm : zM} (h : FS ks m0 mm) : Fr (fun o => FS ks m0 o) (fX7_forget_J18 v0 v1 mm) := by
  unfold fX7_forget_J18
  exact (Fr_zob (Fr_some (FS_wa (by decide) (hk _ (by decide)) h)))
theorem frX7_forget {ks : List Nat} (hk : ∀ k ∈ [7, 32], k ∈ ks) {m0 : zM} {v0 : Nat} {v1 : Int32} {mm : zM} (h : FS ks m0 mm) : Fr (fun o => FS ks m0 o) (fX7_forget v0 v1 mm) := by
  unfold fX7_forget
  exact (Fr_b0 (fun x1 => (Fr_ite (frX7_forget_J18 (fun k h9 => hk k (zss (by decide) k h9)) h) (frX7_forget_J18 (fun k h9 => hk k (zss (by decide) k h9)) (FS_wa (by decide) (hk _ (by decide)) h)))))
theorem frX9_take {ks : List Nat} (hk : ∀ k ∈ [5, 7, 15, 30, 31, 32, 33, 34, 1102, 1103, 1912], k ∈ ks) {m0 : zM} {v1 : Int32} {v2 : Int32} {mm : zM} (h : FS ks m0 mm) : Fr (fun o => FS ks m0 o.2) (fX9_take v1 v2 mm) := by
  unfold fX9_take
  exact (Fr_b0 (fun j1 => (Fr_b0 (fun x2 => (Fr_ite (Fr_some h) (Fr_b0 (fun x3 => (Fr_ite (Fr_some h) (Fr_b0 (fun j4 => (Fr_zob (Fr_b0 (fun x5 => (Fr_ite (Fr_some h) (Fr_bind (frX9_beginAct (fun k h9 => hk k (zss (by decide) k h9)) h) (fun x6 h_x6 => (Fr_b0 (fun j7 => (Fr_zob (Fr_bind (frX7_forget (fun k h9 => hk k (zss (by decide) k h9)) h_x6) (fun x8 h_x8 => (Fr_b0 (fun j9 => (Fr_zob (Fr_some h_x8)))))))))))))))))))))))))
theorem frX9_use {ks : List Nat} (hk : ∀ k ∈ [5, 7, 15, 30, 31, 32, 33, 34, 1102, 1103, 1912], k ∈ ks) {m0 : zM} {v1 : Int32} {v2 : Int32} {mm : zM} (h : FS ks m0 mm) : Fr (fun o => FS ks m0 o.2) (fX9_use v1 v2 mm) := by
  unfold fX9_use
  exact (Fr_b0 (fun j1 => (Fr_b0 (fun x2 => (Fr_ite (Fr_some h) (Fr_b0 (fun j3 => (Fr_b0 (fun x4 => (Fr_ite (Fr_some h) (Fr_ite (Fr_b0 (fun j5 => (Fr_zob (Fr_b0 (fun x6 => (Fr_ite (Fr_ite (Fr_bind (frX9_beginAct (fun k h9 => hk k (zss (by decide) k h9)) h) (fun x7 h_x7 => (Fr_bind (frX7_addTrait (fun k h9 => hk k (zss (by decide) k h9)) h_x7) (fun x8 h_x8 => (Fr_some h_x8))))) (Fr_some h)) (Fr_some h))))))) (Fr_some h))))))))))))
