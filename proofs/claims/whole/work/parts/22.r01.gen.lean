def fX10_lays (v1 : Int32) (v2 : Int32) (v3 : Int32) (mm : zM) : Option zM :=
  (fX10_isRight mm).bind (fun x1 => if x1 = 0 then (some mm) else (if v2 = v3 then (some mm) else (zob (zin ((v1 + 1)) 1357) (zob (zin ((((v1 + 2)) + ((2 * ((gi mm 39 0 (zn ((v1 + 1))))))))) 1357) (zob (zin ((((((v1 + 2)) + ((2 * ((gi mm 39 0 (zn ((v1 + 1))))))))) + 1)) 1357) (zob (zin ((v1 + 1)) 1357) (zob (zin ((v1 + 1)) 1357) (some ((wi ((wi ((wi mm 39 0 (zn ((((v1 + 2)) + ((2 * ((gi mm 39 0 (zn ((v1 + 1)))))))))) v2)) 39 0 (zn ((((((v1 + 2)) + ((2 * ((gi mm 39 0 (zn ((v1 + 1))))))))) + 1))) v3)) 39 0 (zn ((v1 + 1))) ((((gi ((wi ((wi mm 39 0 (zn ((((v1 + 2)) + ((2 * ((gi mm 39 0 (zn ((v1 + 1)))))))))) v2)) 39 0 (zn ((((((v1 + 2)) + ((2 * ((gi mm 39 0 (zn ((v1 + 1))))))))) + 1))) v3)) 39 0 (zn ((v1 + 1))))) + 1))))))))))))
theorem wX10_lays {E : zE} {d : Nat} (hd : 1 ≤ d) {Q : Option zV → zM → Prop} {v1 : Int32} {v2 : Int32} {v3 : Int32} {mm : zM} {o : zM} (h : fX10_lays v1 v2 v3 mm = some o) (hQ : ∀ r, o = r → Q none r) : V E RX10 cX10_lays 5 none d Q 0 [some (zK 10 0), some (zI v1), some (zI v2), some (zI v3), none] [] mm := by
  unfold fX10_lays at h
  refine V_aload_n 1 rfl 0 dX10_lays_0 rfl rfl ?_
  obtain ⟨x1, h1, h⟩ := zbd h
  refine V_cV 4 rfl 0 [] [] dX10_lays_1 cv_X10_81 (ctX10_isRight (Nat.le_refl 0) h1) (Nat.le_trans (by decide) hd) rfl rfl (Nat.le_of_ble_eq_true rfl) zoki rfl ?_
  refine V_if_eq 7 12 rfl dX10_lays_4 (by decide) (fun c => ?_) (fun c => ?_)
  · have h := zpos c h
    exact V_vret dX10_lays_12 rfl (hQ mm (zinj h))
  · have h := zneg c h
    refine V_iload_n 8 rfl 2 dX10_lays_7 rfl rfl ?_
    refine V_iload_n 9 rfl 3 dX10_lays_8 rfl rfl ?_
    refine V_icmp_ne 12 13 rfl dX10_lays_9 (by decide) (fun c => ?_) (fun c => ?_)
    · have h := zneg c h
      refine V_iload_n 14 rfl 1 dX10_lays_13 rfl rfl ?_
      refine V_iconst 15 rfl (v := 2) dX10_lays_14 (by decide) ?_
      refine V_iadd 16 rfl dX10_lays_15 ?_
      refine V_iconst 17 rfl (v := 2) dX10_lays_16 (by decide) ?_
      refine V_aload_n 18 rfl 0 dX10_lays_17 rfl rfl ?_
      refine V_getr 21 rfl 39 0 dX10_lays_18 fl_X10_15 rfl rfl rfl ?_
      refine V_iload_n 22 rfl 1 dX10_lays_21 rfl rfl ?_
      refine V_iconst 23 rfl (v := 1) dX10_lays_22 (by decide) ?_
      refine V_iadd 24 rfl dX10_lays_23 ?_
      obtain ⟨hi, h⟩ := zobd h
      refine V_iald 25 rfl dX10_lays_24 rfl hi ?_
      refine V_imul 26 rfl dX10_lays_25 ?_
      refine V_iadd 27 rfl dX10_lays_26 ?_
      refine V_istore 29 rfl (L' := [some (zK 10 0), some (zI v1), some (zI v2), some (zI v3), some (zI (((v1 + 2)) + ((2 * ((gi mm 39 0 (zn ((v1 + 1)))))))))]) dX10_lays_27 (by decide) rfl ?_
      refine V_aload_n 30 rfl 0 dX10_lays_29 rfl rfl ?_
      refine V_getr 33 rfl 39 0 dX10_lays_30 fl_X10_15 rfl rfl rfl ?_
      refine V_iload 35 rfl dX10_lays_33 rfl ?_
      refine V_iload_n 36 rfl 2 dX10_lays_35 rfl rfl ?_
      obtain ⟨hi, h⟩ := zobd h
      refine V_iast 37 rfl dX10_lays_36 rfl hi ?_
      refine V_aload_n 38 rfl 0 dX10_lays_37 rfl rfl ?_
      refine V_getr 41 rfl 39 0 dX10_lays_38 fl_X10_15 rfl rfl rfl ?_
      refine V_iload 43 rfl dX10_lays_41 rfl ?_
      refine V_iconst 44 rfl (v := 1) dX10_lays_43 (by decide) ?_
      refine V_iadd 45 rfl dX10_lays_44 ?_
      refine V_iload_n 46 rfl 3 dX10_lays_45 rfl rfl ?_
      obtain ⟨hi, h⟩ := zobd h
      refine V_iast 47 rfl dX10_lays_46 rfl hi ?_
      refine V_aload_n 48 rfl 0 dX10_lays_47 rfl rfl ?_
      refine V_getr 51 rfl 39 0 dX10_lays_48 fl_X10_15 rfl rfl rfl ?_
      refine V_iload_n 52 rfl 1 dX10_lays_51 rfl rfl ?_
      refine V_iconst 53 rfl (v := 1) dX10_lays_52 (by decide) ?_
      refine V_iadd 54 rfl dX10_lays_53 ?_
      refine V_dup2 55 rfl dX10_lays_54 rfl rfl ?_
      obtain ⟨hi, h⟩ := zobd h
      refine V_iald 56 rfl dX10_lays_55 rfl hi ?_
      refine V_iconst 57 rfl (v := 1) dX10_lays_56 (by decide) ?_
      refine V_iadd 58 rfl dX10_lays_57 ?_
      obtain ⟨hi, h⟩ := zobd h
      refine V_iast 59 rfl dX10_lays_58 rfl hi ?_
      exact V_vret dX10_lays_59 rfl (hQ ((wi ((wi ((wi mm 39 0 (zn ((((v1 + 2)) + ((2 * ((gi mm 39 0 (zn ((v1 + 1)))))))))) v2)) 39 0 (zn ((((((v1 + 2)) + ((2 * ((gi mm 39 0 (zn ((v1 + 1))))))))) + 1))) v3)) 39 0 (zn ((v1 + 1))) ((((gi ((wi ((wi mm 39 0 (zn ((((v1 + 2)) + ((2 * ((gi mm 39 0 (zn ((v1 + 1)))))))))) v2)) 39 0 (zn ((((((v1 + 2)) + ((2 * ((gi mm 39 0 (zn ((v1 + 1))))))))) + 1))) v3)) 39 0 (zn ((v1 + 1))))) + 1)))) (zinj h))
    · have h := zpos c h
      exact V_vret dX10_lays_12 rfl (hQ mm (zinj h))
theorem ctX10_lays {E : zE} {d : Nat} (hd : 1 ≤ d) {v1 : Int32} {v2 : Int32} {v3 : Int32} {mm : zM} {o : zM} (h : fX10_lays v1 v2 v3 mm = some o) : zOC E yX10_lays cX10_lays 5 none d [zK 10 0, zI v1, zI v2, zI v3] mm none o :=
  zCT_of (by decide) (Nat.le_of_ble_eq_true rfl) (zk_k (zk_i (zk_i (zk_i zk_0)))) rfl (wX10_lays hd h (fun r e => ⟨rfl, by rw [e]⟩))
def fX10_has (v0 : Int32) (v1 : Int32) (mm : zM) : Option Int32 :=
  if (((v0 >>> (v1 &&& 31))) &&& 1) = 1 then (some 1) else (some 0)
theorem wX10_has {E : zE} {d : Nat} (hd : 0 ≤ d) {Q : Option zV → zM → Prop} {v0 : Int32} {v1 : Int32} {mm : zM} {o : Int32} (h : fX10_has v0 v1 mm = some o) (hQ : ∀ r, o = r → Q (some (zI r)) mm) : V E RX10 cX10_has 2 (some .boolean) d Q 0 [some (zI v0), some (zI v1)] [] mm := by
  unfold fX10_has at h
  refine V_iload_n 1 rfl 0 dX10_has_0 rfl rfl ?_
  refine V_iload_n 2 rfl 1 dX10_has_1 rfl rfl ?_
  refine V_ishr 3 rfl dX10_has_2 ?_
  refine V_iconst 4 rfl (v := 1) dX10_has_3 (by decide) ?_
  refine V_iand 5 rfl dX10_has_4 ?_
  refine V_iconst 6 rfl (v := 1) dX10_has_5 (by decide) ?_
  refine V_icmp_ne 9 13 rfl dX10_has_6 (by decide) (fun c => ?_) (fun c => ?_)
  · have h := zneg c h
    refine V_iconst 14 rfl (v := 0) dX10_has_13 (by decide) ?_
    exact V_zret dX10_has_14 rfl rfl (hQ 0 (zinj h))
  · have h := zpos c h
    refine V_iconst 10 rfl (v := 1) dX10_has_9 (by decide) ?_
    refine V_goto 14 dX10_has_10 (by decide) ?_
    exact V_zret dX10_has_14 rfl rfl (hQ 1 (zinj h))
theorem ctX10_has {E : zE} {d : Nat} (hd : 0 ≤ d) {v0 : Int32} {v1 : Int32} {mm : zM} {o : Int32} (h : fX10_has v0 v1 mm = some o) : zOC E yX10_has cX10_has 2 (some .boolean) d [zI v0, zI v1] mm (some (zI o)) mm :=
  zCT_of (by decide) (Nat.le_of_ble_eq_true rfl) (zk_i (zk_i zk_0)) rfl (wX10_has hd h (fun r e => ⟨by rw [e], rfl⟩))
def fX10_readsChange_J165 (v3 : Int32) (v4 : Int32) (s0 : Int32) (s1 : Int32) (s2 : Int32) (mm : zM) : Option zM :=
  (fX10_lays s2 s1 s0 mm).bind (fun x7 => some ((wi x7 10 0 11 ((v3 ||| ((1 <<< (v4 &&& 31))))))))
def fX10_readsChange_J140 (v1 : Int32) (v3 : Int32) (v4 : Int32) (mm : zM) : Option zM :=
  (fX10_must 62 mm).bind (fun x5 => (fX10_isRight x5).bind (fun x6 => if x6 = 0 then (fX10_readsChange_J165 v3 v4 0 v4 v1 x5) else ((fX10_letter x5).bind (fun x8 => fX10_readsChange_J165 v3 v4 x8.1 v4 v1 x8.2))))
def fX10_readsChange_J118 (v1 : Int32) (v2 : Int32) (v3 : Int32) (v4 : Int32) (mm : zM) : Option zM :=
  (fX10_isRight mm).bind (fun x4 => if x4 = 0 then (fX10_readsChange_J140 v1 v3 v4 mm) else (if v2 = 6 then ((fX10_fails 3 ((gi mm 10 0 10)) mm).bind (fun x9 => fX10_readsChange_J140 v1 v3 v4 x9)) else (fX10_readsChange_J140 v1 v3 v4 mm)))
def fX10_readsChange_J65 (v1 : Int32) (v3 : Int32) (v4 : Int32) (mm : zM) : Option zM :=
  (fX10_lays v1 v4 ((-1)) mm).bind (fun x14 => some ((wi x14 10 0 11 ((v3 ||| ((1 <<< (v4 &&& 31))))))))
def fX10_readsChange_J24 (v1 : Int32) (v3 : Int32) (mm : zM) : Option zM :=
  (fX10_letter ((wi mm 10 0 8 ((((gi mm 10 0 8)) + 1))))).bind (fun x12 => (fX10_isRight x12.2).bind (fun x13 => if x13 = 0 then (fX10_readsChange_J65 v1 v3 x12.1 x12.2) else ((fX10_has v3 x12.1 x12.2).bind (fun x15 => if x15 = 0 then (fX10_readsChange_J65 v1 v3 x12.1 x12.2) else ((fX10_fails 2 ((gi x12.2 10 0 10)) x12.2).bind (fun x16 => fX10_readsChange_J65 v1 v3 x12.1 x16))))))
def fX10_readsChange (v1 : Int32) (v2 : Int32) (v3 : Int32) (mm : zM) : Option zM :=
  (fX10_next mm).bind (fun x1 => if x1.1 = 45 then (if v2 = 6 then ((fX10_fails 3 ((gi x1.2 10 0 8)) x1.2).bind (fun x17 => fX10_readsChange_J24 v1 v3 x17)) else (fX10_readsChange_J24 v1 v3 x1.2)) else ((fX10_letter x1.2).bind (fun x2 => (fX10_isRight x2.2).bind (fun x3 => if x3 = 0 then (fX10_readsChange_J118 v1 v2 v3 x2.1 x2.2) else ((fX10_has v3 x2.1 x2.2).bind (fun x10 => if x10 = 0 then (fX10_readsChange_J118 v1 v2 v3 x2.1 x2.2) else ((fX10_fails 2 ((gi x2.2 10 0 10)) x2.2).bind (fun x11 => fX10_readsChange_J140 v1 v3 x2.1 x11))))))))
theorem wX10_readsChange_J165 {E : zE} {d : Nat} (hd : 4 ≤ d) {Q : Option zV → zM → Prop} {v3 : Int32} {v4 : Int32} {s0 : Int32} {s1 : Int32} {s2 : Int32} {mm : zM} {o : zM} (h : fX10_readsChange_J165 v3 v4 s0 s1 s2 mm = some o) (hQ : ∀ r, o = r → Q none r) : V E RX10 cX10_readsChange 5 none d Q 165 [some (zK 10 0), none, none, some (zI v3), some (zI v4)] [zI s0, zI s1, zI s2, zK 10 0] mm := by
  unfold fX10_readsChange_J165 at h
  obtain ⟨x7, h1, h⟩ := zbd h
  refine V_cV 168 rfl 1 [zI s2, zI s1, zI s0] [] dX10_readsChange_165 cv_X10_137 (ctX10_lays (Nat.le_refl 1) h1) (Nat.le_trans (by decide) hd) rfl rfl (Nat.le_of_ble_eq_true rfl) zokn rfl ?_
  refine V_aload_n 169 rfl 0 dX10_readsChange_168 rfl rfl ?_
  refine V_iload_n 170 rfl 3 dX10_readsChange_169 rfl rfl ?_
  refine V_iconst 171 rfl (v := 1) dX10_readsChange_170 (by decide) ?_
  refine V_iload 173 rfl dX10_readsChange_171 rfl ?_
  refine V_ishl 174 rfl dX10_readsChange_173 ?_
  refine V_ior 175 rfl dX10_readsChange_174 ?_
  refine V_puti 178 rfl dX10_readsChange_175 fw_X10_141 rfl rfl rfl ?_
  exact V_vret dX10_readsChange_178 rfl (hQ ((wi x7 10 0 11 ((v3 ||| ((1 <<< (v4 &&& 31))))))) (zinj h))
theorem wX10_readsChange_J140 {E : zE} {d : Nat} (hd : 4 ≤ d) {Q : Option zV → zM → Prop} {v1 : Int32} {v3 : Int32} {v4 : Int32} {mm : zM} {o : zM} (h : fX10_readsChange_J140 v1 v3 v4 mm = some o) (hQ : ∀ r, o = r → Q none r) : V E RX10 cX10_readsChange 5 none d Q 140 [some (zK 10 0), some (zI v1), none, some (zI v3), some (zI v4)] [] mm := by
  unfold fX10_readsChange_J140 at h
  refine V_aload_n 141 rfl 0 dX10_readsChange_140 rfl rfl ?_
  refine V_bipush 143 rfl (v := 62) dX10_readsChange_141 (by decide) ?_
  obtain ⟨x5, h1, h⟩ := zbd h
  refine V_cV 146 rfl 3 [zI 62] [] dX10_readsChange_143 cv_X10_144 (ctX10_must (Nat.le_refl 3) h1) (Nat.le_trans (by decide) hd) rfl rfl (Nat.le_of_ble_eq_true rfl) zokn rfl ?_
  refine V_aload_n 147 rfl 0 dX10_readsChange_146 rfl rfl ?_
  refine V_iload_n 148 rfl 1 dX10_readsChange_147 rfl rfl ?_
  refine V_iload 150 rfl dX10_readsChange_148 rfl ?_
  refine V_aload_n 151 rfl 0 dX10_readsChange_150 rfl rfl ?_
  obtain ⟨x6, h1, h⟩ := zbd h
  refine V_cV 154 rfl 0 [] [zI v4, zI v1, zK 10 0] dX10_readsChange_151 cv_X10_81 (ctX10_isRight (Nat.le_refl 0) h1) (Nat.le_trans (by decide) hd) rfl rfl (Nat.le_of_ble_eq_true rfl) zoki rfl ?_
  refine V_if_eq 157 164 rfl dX10_readsChange_154 (by decide) (fun c => ?_) (fun c => ?_)
  · have h := zpos c h
    refine V_iconst 165 rfl (v := 0) dX10_readsChange_164 (by decide) ?_
    exact V_w (zsub_s (zsub_n (zsub_s (zsub_s (zsub_s zsub_0))))) (wX10_readsChange_J165 hd h hQ)
  · have h := zneg c h
    refine V_aload_n 158 rfl 0 dX10_readsChange_157 rfl rfl ?_
    obtain ⟨x8, h1, h⟩ := zbd h
    refine V_cV 161 rfl 3 [] [zI v4, zI v1, zK 10 0] dX10_readsChange_158 cv_X10_130 (ctX10_letter (Nat.le_refl 3) h1) (Nat.le_trans (by decide) hd) rfl rfl (Nat.le_of_ble_eq_true rfl) zoki rfl ?_
    refine V_goto 165 dX10_readsChange_161 (by decide) ?_
    exact V_w (zsub_s (zsub_n (zsub_s (zsub_s (zsub_s zsub_0))))) (wX10_readsChange_J165 hd h hQ)
theorem wX10_readsChange_J118 {E : zE} {d : Nat} (hd : 4 ≤ d) {Q : Option zV → zM → Prop} {v1 : Int32} {v2 : Int32} {v3 : Int32} {v4 : Int32} {mm : zM} {o : zM} (h : fX10_readsChange_J118 v1 v2 v3 v4 mm = some o) (hQ : ∀ r, o = r → Q none r) : V E RX10 cX10_readsChange 5 none d Q 118 [some (zK 10 0), some (zI v1), some (zI v2), some (zI v3), some (zI v4)] [] mm := by
  unfold fX10_readsChange_J118 at h
  refine V_aload_n 119 rfl 0 dX10_readsChange_118 rfl rfl ?_
  obtain ⟨x4, h1, h⟩ := zbd h
  refine V_cV 122 rfl 0 [] [] dX10_readsChange_119 cv_X10_81 (ctX10_isRight (Nat.le_refl 0) h1) (Nat.le_trans (by decide) hd) rfl rfl (Nat.le_of_ble_eq_true rfl) zoki rfl ?_
  refine V_if_eq 125 140 rfl dX10_readsChange_122 (by decide) (fun c => ?_) (fun c => ?_)
  · have h := zpos c h
    exact V_w (zsub_s (zsub_s (zsub_n (zsub_s (zsub_s zsub_0))))) (wX10_readsChange_J140 hd h hQ)
  · have h := zneg c h
    refine V_iload_n 126 rfl 2 dX10_readsChange_125 rfl rfl ?_
    refine V_bipush 128 rfl (v := 6) dX10_readsChange_126 (by decide) ?_
    refine V_icmp_ne 131 140 rfl dX10_readsChange_128 (by decide) (fun c => ?_) (fun c => ?_)
    · have h := zneg c h
      exact V_w (zsub_s (zsub_s (zsub_n (zsub_s (zsub_s zsub_0))))) (wX10_readsChange_J140 hd h hQ)
    · have h := zpos c h
      refine V_aload_n 132 rfl 0 dX10_readsChange_131 rfl rfl ?_
      refine V_iconst 133 rfl (v := 3) dX10_readsChange_132 (by decide) ?_
      refine V_aload_n 134 rfl 0 dX10_readsChange_133 rfl rfl ?_
      refine V_geti 137 rfl dX10_readsChange_134 fl_X10_116 rfl ?_
      obtain ⟨x9, h1, h⟩ := zbd h
      refine V_cV 140 rfl 1 [zI 3, zI (gi mm 10 0 10)] [] dX10_readsChange_137 cv_X10_112 (ctX10_fails (Nat.le_refl 1) h1) (Nat.le_trans (by decide) hd) rfl rfl (Nat.le_of_ble_eq_true rfl) zokn rfl ?_
      exact V_w (zsub_s (zsub_s (zsub_n (zsub_s (zsub_s zsub_0))))) (wX10_readsChange_J140 hd h hQ)
theorem wX10_readsChange_J65 {E : zE} {d : Nat} (hd : 4 ≤ d) {Q : Option zV → zM → Prop} {v1 : Int32} {v3 : Int32} {v4 : Int32} {mm : zM} {o : zM} (h : fX10_readsChange_J65 v1 v3 v4 mm = some o) (hQ : ∀ r, o = r → Q none r) : V E RX10 cX10_readsChange 5 none d Q 65 [some (zK 10 0), some (zI v1), none, some (zI v3), some (zI v4)] [] mm := by
  unfold fX10_readsChange_J65 at h
  refine V_aload_n 66 rfl 0 dX10_readsChange_65 rfl rfl ?_
  refine V_iload_n 67 rfl 1 dX10_readsChange_66 rfl rfl ?_
  refine V_iload 69 rfl dX10_readsChange_67 rfl ?_
  refine V_iconst 70 rfl (v := (-1)) dX10_readsChange_69 (by decide) ?_
  obtain ⟨x14, h1, h⟩ := zbd h
  refine V_cV 73 rfl 1 [zI v1, zI v4, zI (-1)] [] dX10_readsChange_70 cv_X10_137 (ctX10_lays (Nat.le_refl 1) h1) (Nat.le_trans (by decide) hd) rfl rfl (Nat.le_of_ble_eq_true rfl) zokn rfl ?_
  refine V_aload_n 74 rfl 0 dX10_readsChange_73 rfl rfl ?_
  refine V_iload_n 75 rfl 3 dX10_readsChange_74 rfl rfl ?_
  refine V_iconst 76 rfl (v := 1) dX10_readsChange_75 (by decide) ?_
  refine V_iload 78 rfl dX10_readsChange_76 rfl ?_
  refine V_ishl 79 rfl dX10_readsChange_78 ?_
  refine V_ior 80 rfl dX10_readsChange_79 ?_
  refine V_puti 83 rfl dX10_readsChange_80 fw_X10_141 rfl rfl rfl ?_
  exact V_vret dX10_readsChange_83 rfl (hQ ((wi x14 10 0 11 ((v3 ||| ((1 <<< (v4 &&& 31))))))) (zinj h))
theorem wX10_readsChange_J24 {E : zE} {d : Nat} (hd : 4 ≤ d) {Q : Option zV → zM → Prop} {v1 : Int32} {v3 : Int32} {mm : zM} {o : zM} (h : fX10_readsChange_J24 v1 v3 mm = some o) (hQ : ∀ r, o = r → Q none r) : V E RX10 cX10_readsChange 5 none d Q 24 [some (zK 10 0), some (zI v1), none, some (zI v3), none] [] mm := by
  unfold fX10_readsChange_J24 at h
  refine V_aload_n 25 rfl 0 dX10_readsChange_24 rfl rfl ?_
  refine V_dup 26 rfl dX10_readsChange_25 rfl ?_
  refine V_geti 29 rfl dX10_readsChange_26 fl_X10_71 rfl ?_
  refine V_iconst 30 rfl (v := 1) dX10_readsChange_29 (by decide) ?_
  refine V_iadd 31 rfl dX10_readsChange_30 ?_
  refine V_puti 34 rfl dX10_readsChange_31 fw_X10_71 rfl rfl rfl ?_
  refine V_aload_n 35 rfl 0 dX10_readsChange_34 rfl rfl ?_
  obtain ⟨x12, h1, h⟩ := zbd h
  refine V_cV 38 rfl 3 [] [] dX10_readsChange_35 cv_X10_130 (ctX10_letter (Nat.le_refl 3) h1) (Nat.le_trans (by decide) hd) rfl rfl (Nat.le_of_ble_eq_true rfl) zoki rfl ?_
  refine V_istore 40 rfl (L' := [some (zK 10 0), some (zI v1), none, some (zI v3), some (zI x12.1)]) dX10_readsChange_38 (by decide) rfl ?_
  refine V_aload_n 41 rfl 0 dX10_readsChange_40 rfl rfl ?_
  obtain ⟨x13, h1, h⟩ := zbd h
  refine V_cV 44 rfl 0 [] [] dX10_readsChange_41 cv_X10_81 (ctX10_isRight (Nat.le_refl 0) h1) (Nat.le_trans (by decide) hd) rfl rfl (Nat.le_of_ble_eq_true rfl) zoki rfl ?_
  refine V_if_eq 47 65 rfl dX10_readsChange_44 (by decide) (fun c => ?_) (fun c => ?_)
  · have h := zpos c h
    exact wX10_readsChange_J65 hd h hQ
  · have h := zneg c h
    refine V_iload_n 48 rfl 3 dX10_readsChange_47 rfl rfl ?_
    refine V_iload 50 rfl dX10_readsChange_48 rfl ?_
    obtain ⟨x15, h1, h⟩ := zbd h
    refine V_cS 53 rfl 0 [zI v3, zI x12.1] [] dX10_readsChange_50 cs_X10_133 (ctX10_has (Nat.le_refl 0) h1) (Nat.le_trans (by decide) hd) rfl rfl (Nat.le_of_ble_eq_true rfl) zoki rfl ?_
    refine V_if_eq 56 65 rfl dX10_readsChange_53 (by decide) (fun c => ?_) (fun c => ?_)
    · have h := zpos c h
      exact wX10_readsChange_J65 hd h hQ
    · have h := zneg c h
      refine V_aload_n 57 rfl 0 dX10_readsChange_56 rfl rfl ?_
      refine V_iconst 58 rfl (v := 2) dX10_readsChange_57 (by decide) ?_
      refine V_aload_n 59 rfl 0 dX10_readsChange_58 rfl rfl ?_
      refine V_geti 62 rfl dX10_readsChange_59 fl_X10_116 rfl ?_
      obtain ⟨x16, h1, h⟩ := zbd h
      refine V_cV 65 rfl 1 [zI 2, zI (gi x12.2 10 0 10)] [] dX10_readsChange_62 cv_X10_112 (ctX10_fails (Nat.le_refl 1) h1) (Nat.le_trans (by decide) hd) rfl rfl (Nat.le_of_ble_eq_true rfl) zokn rfl ?_
      exact wX10_readsChange_J65 hd h hQ
theorem wX10_readsChange {E : zE} {d : Nat} (hd : 4 ≤ d) {Q : Option zV → zM → Prop} {v1 : Int32} {v2 : Int32} {v3 : Int32} {mm : zM} {o : zM} (h : fX10_readsChange v1 v2 v3 mm = some o) (hQ : ∀ r, o = r → Q none r) : V E RX10 cX10_readsChange 5 none d Q 0 [some (zK 10 0), some (zI v1), some (zI v2), some (zI v3), none] [] mm := by
  unfold fX10_readsChange at h
  refine V_aload_n 1 rfl 0 dX10_readsChange_0 rfl rfl ?_
  obtain ⟨x1, h1, h⟩ := zbd h
  refine V_cV 4 rfl 1 [] [] dX10_readsChange_1 cv_X10_85 (ctX10_next (Nat.le_refl 1) h1) (Nat.le_trans (by decide) hd) rfl rfl (Nat.le_of_ble_eq_true rfl) zoki rfl ?_
  refine V_bipush 6 rfl (v := 45) dX10_readsChange_4 (by decide) ?_
  refine V_icmp_ne 9 84 rfl dX10_readsChange_6 (by decide) (fun c => ?_) (fun c => ?_)
  · have h := zneg c h
    refine V_aload_n 85 rfl 0 dX10_readsChange_84 rfl rfl ?_
    obtain ⟨x2, h1, h⟩ := zbd h
    refine V_cV 88 rfl 3 [] [] dX10_readsChange_85 cv_X10_130 (ctX10_letter (Nat.le_refl 3) h1) (Nat.le_trans (by decide) hd) rfl rfl (Nat.le_of_ble_eq_true rfl) zoki rfl ?_
    refine V_istore 90 rfl (L' := [some (zK 10 0), some (zI v1), some (zI v2), some (zI v3), some (zI x2.1)]) dX10_readsChange_88 (by decide) rfl ?_
    refine V_aload_n 91 rfl 0 dX10_readsChange_90 rfl rfl ?_
    obtain ⟨x3, h1, h⟩ := zbd h
    refine V_cV 94 rfl 0 [] [] dX10_readsChange_91 cv_X10_81 (ctX10_isRight (Nat.le_refl 0) h1) (Nat.le_trans (by decide) hd) rfl rfl (Nat.le_of_ble_eq_true rfl) zoki rfl ?_
    refine V_if_eq 97 118 rfl dX10_readsChange_94 (by decide) (fun c => ?_) (fun c => ?_)
    · have h := zpos c h
      exact wX10_readsChange_J118 hd h hQ
    · have h := zneg c h
      refine V_iload_n 98 rfl 3 dX10_readsChange_97 rfl rfl ?_
      refine V_iload 100 rfl dX10_readsChange_98 rfl ?_
      obtain ⟨x10, h1, h⟩ := zbd h
      refine V_cS 103 rfl 0 [zI v3, zI x2.1] [] dX10_readsChange_100 cs_X10_133 (ctX10_has (Nat.le_refl 0) h1) (Nat.le_trans (by decide) hd) rfl rfl (Nat.le_of_ble_eq_true rfl) zoki rfl ?_
      refine V_if_eq 106 118 rfl dX10_readsChange_103 (by decide) (fun c => ?_) (fun c => ?_)
      · have h := zpos c h
        exact wX10_readsChange_J118 hd h hQ
      · have h := zneg c h
        refine V_aload_n 107 rfl 0 dX10_readsChange_106 rfl rfl ?_
        refine V_iconst 108 rfl (v := 2) dX10_readsChange_107 (by decide) ?_
        refine V_aload_n 109 rfl 0 dX10_readsChange_108 rfl rfl ?_
        refine V_geti 112 rfl dX10_readsChange_109 fl_X10_116 rfl ?_
        obtain ⟨x11, h1, h⟩ := zbd h
        refine V_cV 115 rfl 1 [zI 2, zI (gi x2.2 10 0 10)] [] dX10_readsChange_112 cv_X10_112 (ctX10_fails (Nat.le_refl 1) h1) (Nat.le_trans (by decide) hd) rfl rfl (Nat.le_of_ble_eq_true rfl) zokn rfl ?_
        refine V_goto 140 dX10_readsChange_115 (by decide) ?_
        exact V_w (zsub_s (zsub_s (zsub_n (zsub_s (zsub_s zsub_0))))) (wX10_readsChange_J140 hd h hQ)
  · have h := zpos c h
    refine V_iload_n 10 rfl 2 dX10_readsChange_9 rfl rfl ?_
    refine V_bipush 12 rfl (v := 6) dX10_readsChange_10 (by decide) ?_
    refine V_icmp_ne 15 24 rfl dX10_readsChange_12 (by decide) (fun c => ?_) (fun c => ?_)
    · have h := zneg c h
      exact V_w (zsub_s (zsub_s (zsub_n (zsub_s (zsub_s zsub_0))))) (wX10_readsChange_J24 hd h hQ)
    · have h := zpos c h
      refine V_aload_n 16 rfl 0 dX10_readsChange_15 rfl rfl ?_
      refine V_iconst 17 rfl (v := 3) dX10_readsChange_16 (by decide) ?_
      refine V_aload_n 18 rfl 0 dX10_readsChange_17 rfl rfl ?_
      refine V_geti 21 rfl dX10_readsChange_18 fl_X10_71 rfl ?_
      obtain ⟨x17, h1, h⟩ := zbd h
      refine V_cV 24 rfl 1 [zI 3, zI (gi x1.2 10 0 8)] [] dX10_readsChange_21 cv_X10_112 (ctX10_fails (Nat.le_refl 1) h1) (Nat.le_trans (by decide) hd) rfl rfl (Nat.le_of_ble_eq_true rfl) zokn rfl ?_
      exact V_w (zsub_s (zsub_s (zsub_n (zsub_s (zsub_s zsub_0))))) (wX10_readsChange_J24 hd h hQ)
theorem ctX10_readsChange {E : zE} {d : Nat} (hd : 4 ≤ d) {v1 : Int32} {v2 : Int32} {v3 : Int32} {mm : zM} {o : zM} (h : fX10_readsChange v1 v2 v3 mm = some o) : zOC E yX10_readsChange cX10_readsChange 5 none d [zK 10 0, zI v1, zI v2, zI v3] mm none o :=
  zCT_of (by decide) (Nat.le_of_ble_eq_true rfl) (zk_k (zk_i (zk_i (zk_i zk_0)))) rfl (wX10_readsChange hd h (fun r e => ⟨rfl, by rw [e]⟩))
def fX10_readsUses_J155 (v1 : Int32) (v2 : Int32) (mm : zM) : Option ((Int32 × zM) ⊕ (zM ⊕ zM)) :=
  (fX10_isRight mm).bind (fun x6 => if x6 = 0 then (some (.inl (0, mm))) else ((fX10_isCapital mm).bind (fun x7 => if x7.1 = 0 then (some (.inl (0, x7.2))) else (some (.inl (1, x7.2))))))
def fX10_readsUses_L103 (v1 : Int32) (v2 : Int32) (v5 : Int32) (s : (Int32 × Int32 × zM)) : Option ((Int32 × Int32 × zM) ⊕ (zM ⊕ Empty)) :=
  if s.2.1 = 0 then (some (.inr (.inl s.2.2))) else ((fX10_readsChange v5 s.1 ((gi s.2.2 10 0 11)) s.2.2).bind (fun x8 => (fX10_isRight x8).bind (fun x9 => if x9 = 0 then (some (.inl ((s.1 + 1), 0, x8))) else ((fX10_next x8).bind (fun x10 => if x10.1 = 41 then (some (.inl ((s.1 + 1), 0, x10.2))) else (some (.inl ((s.1 + 1), 1, x10.2))))))))
def fX10_readsUses_L10 (v1 : Int32) (v2 : Int32) (s : (Int32 × zM)) : Option ((Int32 × zM) ⊕ (zM ⊕ zM)) :=
  if s.1 = 0 then (some (.inr (.inl s.2))) else ((fX10_useAt v1 0 s.2).bind (fun x1 => zob (zin v2 1357) ((fX10_named 1 x1 14 ((gi s.2 39 0 (zn v2))) s.2).bind (fun x2 => (fX10_isRight x2.2).bind (fun x3 => if x3 = 0 then (some (.inr (.inr x2.2))) else (zob (zin v2 1357) ((fX10_useAt v1 ((gi x2.2 39 0 (zn v2))) x2.2).bind (fun x4 => zob (zin x4 1357) (zob (zin ((x4 + 1)) 1357) (zob (zin v2 1357) (zob (zin v2 1357) ((fX10_takesSign 40 ((wi ((wi ((wi x2.2 39 0 (zn x4) x2.1)) 39 0 (zn ((x4 + 1))) 0)) 39 0 (zn v2) ((((gi ((wi ((wi x2.2 39 0 (zn x4) x2.1)) 39 0 (zn ((x4 + 1))) 0)) 39 0 (zn v2))) + 1))))).bind (fun x5 => if x5.1 = 0 then (fX10_readsUses_J155 v1 v2 x5.2) else ((zloop (fX10_readsUses_L103 v1 v2 x4) zF (0, 1, (wi x5.2 10 0 11 0))).bind (fun o14 => zcase o14 (fun y11 => (fX10_must 41 y11).bind (fun x13 => fX10_readsUses_J155 v1 v2 x13)) (fun r12 => r12.elim))))))))))))))))
def fX10_readsUses (v1 : Int32) (mm : zM) : Option zM :=
  (zloop (fX10_readsUses_L10 v1 ((((113 * v1)) + 7))) zF (1, mm)).bind (fun o17 => zcase o17 (fun y15 => some y15) (fun r16 => some r16))
theorem wX10_readsUses_J155 {E : zE} {d : Nat} (hd : 5 ≤ d) {Q : Option zV → zM → Prop} {v1 : Int32} {v2 : Int32} {mm : zM} {o : ((Int32 × zM) ⊕ (zM ⊕ zM))} (h : fX10_readsUses_J155 v1 v2 mm = some o) (kc : ∀ s' : (Int32 × zM), o = .inl s' → V E RX10 cX10_readsUses 8 none d Q 10 [some (zK 10 0), some (zI v1), some (zI v2), some (zI s'.1), none, none, none, none] [] s'.2) (ke : ∀ y : zM, o = .inr (.inl y) → V E RX10 cX10_readsUses 8 none d Q 178 [none, none, none, none, none, none, none, none] [] y) (kr : ∀ r : zM, o = .inr (.inr r) → Q none r) : V E RX10 cX10_readsUses 8 none d Q 155 [some (zK 10 0), some (zI v1), some (zI v2), none, none, none, none, none] [] mm := by
  unfold fX10_readsUses_J155 at h
  refine V_aload_n 156 rfl 0 dX10_readsUses_155 rfl rfl ?_
  obtain ⟨x6, h1, h⟩ := zbd h
  refine V_cV 159 rfl 0 [] [] dX10_readsUses_156 cv_X10_81 (ctX10_isRight (Nat.le_refl 0) h1) (Nat.le_trans (by decide) hd) rfl rfl (Nat.le_of_ble_eq_true rfl) zoki rfl ?_
  refine V_if_eq 162 173 rfl dX10_readsUses_159 (by decide) (fun c => ?_) (fun c => ?_)
  · have h := zpos c h
    refine V_iconst 174 rfl (v := 0) dX10_readsUses_173 (by decide) ?_
    refine V_istore_n 175 rfl 3 (L' := [some (zK 10 0), some (zI v1), some (zI v2), some (zI 0), none, none, none, none]) dX10_readsUses_174 rfl (by decide) rfl ?_
    refine V_goto 10 dX10_readsUses_175 (by decide) ?_
    exact kc (0, mm) (zinj h)
  · have h := zneg c h
    refine V_aload_n 163 rfl 0 dX10_readsUses_162 rfl rfl ?_
    obtain ⟨x7, h1, h⟩ := zbd h
    refine V_cV 166 rfl 2 [] [] dX10_readsUses_163 cv_X10_119 (ctX10_isCapital (Nat.le_refl 2) h1) (Nat.le_trans (by decide) hd) rfl rfl (Nat.le_of_ble_eq_true rfl) zoki rfl ?_
    refine V_if_eq 169 173 rfl dX10_readsUses_166 (by decide) (fun c => ?_) (fun c => ?_)
    · have h := zpos c h
      refine V_iconst 174 rfl (v := 0) dX10_readsUses_173 (by decide) ?_
      refine V_istore_n 175 rfl 3 (L' := [some (zK 10 0), some (zI v1), some (zI v2), some (zI 0), none, none, none, none]) dX10_readsUses_174 rfl (by decide) rfl ?_
      refine V_goto 10 dX10_readsUses_175 (by decide) ?_
      exact kc (0, x7.2) (zinj h)
    · have h := zneg c h
      refine V_iconst 170 rfl (v := 1) dX10_readsUses_169 (by decide) ?_
      refine V_goto 174 dX10_readsUses_170 (by decide) ?_
      refine V_istore_n 175 rfl 3 (L' := [some (zK 10 0), some (zI v1), some (zI v2), some (zI 1), none, none, none, none]) dX10_readsUses_174 rfl (by decide) rfl ?_
      refine V_goto 10 dX10_readsUses_175 (by decide) ?_
      exact kc (1, x7.2) (zinj h)
theorem wX10_readsUses_L103 {E : zE} {d : Nat} (hd : 5 ≤ d) {Q : Option zV → zM → Prop} {v1 : Int32} {v2 : Int32} {v5 : Int32} {n : Nat} {s : (Int32 × Int32 × zM)} {o : zM ⊕ Empty} (h : zloop (fX10_readsUses_L103 v1 v2 v5) n s = some o) (he : ∀ y : zM, o = .inl y → V E RX10 cX10_readsUses 8 none d Q 149 [some (zK 10 0), some (zI v1), some (zI v2), none, none, none, none, none] [] y) : V E RX10 cX10_readsUses 8 none d Q 103 [some (zK 10 0), some (zI v1), some (zI v2), none, none, some (zI v5), some (zI s.1), some (zI s.2.1)] [] s.2.2 := by
  induction n generalizing s with
  | zero => exact (zloop_0 h).elim
  | succ n ih =>
    obtain ⟨o1, h1, hc1, he1⟩ := zloop_s h
    have kc : ∀ s' : (Int32 × Int32 × zM), o1 = .inl s' → V E RX10 cX10_readsUses 8 none d Q 103 [some (zK 10 0), some (zI v1), some (zI v2), none, none, some (zI v5), some (zI s'.1), some (zI s'.2.1)] [] s'.2.2 := fun s' e => ih (hc1 s' e)
    have ke : ∀ y : zM, o1 = .inr (.inl y) → V E RX10 cX10_readsUses 8 none d Q 149 [some (zK 10 0), some (zI v1), some (zI v2), none, none, none, none, none] [] y := fun y e => he y (he1 _ e)
    clear h hc1 he1 ih
    have h := h1
    clear h1
    unfold fX10_readsUses_L103 at h
    refine V_iload 105 rfl dX10_readsUses_103 rfl ?_
    refine V_if_eq 108 149 rfl dX10_readsUses_105 (by decide) (fun c => ?_) (fun c => ?_)
    · have h := zpos c h
      exact V_w (zsub_s (zsub_s (zsub_s (zsub_s (zsub_s (zsub_n (zsub_n (zsub_n zsub_0)))))))) (ke s.2.2 (zinj h))
    · have h := zneg c h
      refine V_aload_n 109 rfl 0 dX10_readsUses_108 rfl rfl ?_
      refine V_iload 111 rfl dX10_readsUses_109 rfl ?_
      refine V_iload 113 rfl dX10_readsUses_111 rfl ?_
      refine V_aload_n 114 rfl 0 dX10_readsUses_113 rfl rfl ?_
      refine V_geti 117 rfl dX10_readsUses_114 fl_X10_141 rfl ?_
      obtain ⟨x8, h1, h⟩ := zbd h
      refine V_cV 120 rfl 4 [zI v5, zI s.1, zI (gi s.2.2 10 0 11)] [] dX10_readsUses_117 cv_X10_151 (ctX10_readsChange (Nat.le_refl 4) h1) (Nat.le_trans (by decide) hd) rfl rfl (Nat.le_of_ble_eq_true rfl) zokn rfl ?_
      refine V_iinc 123 rfl (s.1 + 1) (L' := [some (zK 10 0), some (zI v1), some (zI v2), none, none, some (zI v5), some (zI (s.1 + 1)), some (zI s.2.1)]) dX10_readsUses_120 rfl rfl (by decide) rfl ?_
      refine V_aload_n 124 rfl 0 dX10_readsUses_123 rfl rfl ?_
      obtain ⟨x9, h1, h⟩ := zbd h
      refine V_cV 127 rfl 0 [] [] dX10_readsUses_124 cv_X10_81 (ctX10_isRight (Nat.le_refl 0) h1) (Nat.le_trans (by decide) hd) rfl rfl (Nat.le_of_ble_eq_true rfl) zoki rfl ?_
      refine V_if_eq 130 143 rfl dX10_readsUses_127 (by decide) (fun c => ?_) (fun c => ?_)
      · have h := zpos c h
        refine V_iconst 144 rfl (v := 0) dX10_readsUses_143 (by decide) ?_
        refine V_istore 146 rfl (L' := [some (zK 10 0), some (zI v1), some (zI v2), none, none, some (zI v5), some (zI (s.1 + 1)), some (zI 0)]) dX10_readsUses_144 (by decide) rfl ?_
        refine V_goto 103 dX10_readsUses_146 (by decide) ?_
        exact kc ((s.1 + 1), 0, x8) (zinj h)
      · have h := zneg c h
        refine V_aload_n 131 rfl 0 dX10_readsUses_130 rfl rfl ?_
        obtain ⟨x10, h1, h⟩ := zbd h
        refine V_cV 134 rfl 1 [] [] dX10_readsUses_131 cv_X10_85 (ctX10_next (Nat.le_refl 1) h1) (Nat.le_trans (by decide) hd) rfl rfl (Nat.le_of_ble_eq_true rfl) zoki rfl ?_
        refine V_bipush 136 rfl (v := 41) dX10_readsUses_134 (by decide) ?_
        refine V_icmp_eq 139 143 rfl dX10_readsUses_136 (by decide) (fun c => ?_) (fun c => ?_)
        · have h := zpos c h
          refine V_iconst 144 rfl (v := 0) dX10_readsUses_143 (by decide) ?_
          refine V_istore 146 rfl (L' := [some (zK 10 0), some (zI v1), some (zI v2), none, none, some (zI v5), some (zI (s.1 + 1)), some (zI 0)]) dX10_readsUses_144 (by decide) rfl ?_
          refine V_goto 103 dX10_readsUses_146 (by decide) ?_
          exact kc ((s.1 + 1), 0, x10.2) (zinj h)
        · have h := zneg c h
          refine V_iconst 140 rfl (v := 1) dX10_readsUses_139 (by decide) ?_
          refine V_goto 144 dX10_readsUses_140 (by decide) ?_
          refine V_istore 146 rfl (L' := [some (zK 10 0), some (zI v1), some (zI v2), none, none, some (zI v5), some (zI (s.1 + 1)), some (zI 1)]) dX10_readsUses_144 (by decide) rfl ?_
          refine V_goto 103 dX10_readsUses_146 (by decide) ?_
          exact kc ((s.1 + 1), 1, x10.2) (zinj h)
theorem wX10_readsUses_L10 {E : zE} {d : Nat} (hd : 5 ≤ d) {Q : Option zV → zM → Prop} {v1 : Int32} {v2 : Int32} {n : Nat} {s : (Int32 × zM)} {o : zM ⊕ zM} (h : zloop (fX10_readsUses_L10 v1 v2) n s = some o) (he : ∀ y : zM, o = .inl y → V E RX10 cX10_readsUses 8 none d Q 178 [none, none, none, none, none, none, none, none] [] y) (hr : ∀ r : zM, o = .inr r → Q none r) : V E RX10 cX10_readsUses 8 none d Q 10 [some (zK 10 0), some (zI v1), some (zI v2), some (zI s.1), none, none, none, none] [] s.2 := by
  induction n generalizing s with
  | zero => exact (zloop_0 h).elim
  | succ n ih =>
    obtain ⟨o1, h1, hc1, he1⟩ := zloop_s h
    have kc : ∀ s' : (Int32 × zM), o1 = .inl s' → V E RX10 cX10_readsUses 8 none d Q 10 [some (zK 10 0), some (zI v1), some (zI v2), some (zI s'.1), none, none, none, none] [] s'.2 := fun s' e => ih (hc1 s' e)
    have ke : ∀ y : zM, o1 = .inr (.inl y) → V E RX10 cX10_readsUses 8 none d Q 178 [none, none, none, none, none, none, none, none] [] y := fun y e => he y (he1 _ e)
    have kr : ∀ r : zM, o1 = .inr (.inr r) → Q none r := fun r e => hr r (he1 _ e)
    clear h hc1 he1 ih
    have h := h1
    clear h1
    unfold fX10_readsUses_L10 at h
    refine V_iload_n 11 rfl 3 dX10_readsUses_10 rfl rfl ?_
    refine V_if_eq 14 178 rfl dX10_readsUses_11 (by decide) (fun c => ?_) (fun c => ?_)
    · have h := zpos c h
      exact V_w (zsub_n (zsub_n (zsub_n (zsub_n (zsub_s (zsub_s (zsub_s (zsub_s zsub_0)))))))) (ke s.2 (zinj h))
    · have h := zneg c h
      refine V_aload_n 15 rfl 0 dX10_readsUses_14 rfl rfl ?_
      refine V_iconst 16 rfl (v := 1) dX10_readsUses_15 (by decide) ?_
      refine V_iload_n 17 rfl 1 dX10_readsUses_16 rfl rfl ?_
      refine V_iconst 18 rfl (v := 0) dX10_readsUses_17 (by decide) ?_
      obtain ⟨x1, h1, h⟩ := zbd h
      refine V_cS 21 rfl 0 [zI v1, zI 0] [zI 1, zK 10 0] dX10_readsUses_18 cs_X10_147 (ctX10_useAt (Nat.le_refl 0) h1) (Nat.le_trans (by decide) hd) rfl rfl (Nat.le_of_ble_eq_true rfl) zoki rfl ?_
      refine V_bipush 23 rfl (v := 14) dX10_readsUses_21 (by decide) ?_
      refine V_aload_n 24 rfl 0 dX10_readsUses_23 rfl rfl ?_
      refine V_getr 27 rfl 39 0 dX10_readsUses_24 fl_X10_15 rfl rfl rfl ?_
      refine V_iload_n 28 rfl 2 dX10_readsUses_27 rfl rfl ?_
      obtain ⟨hi, h⟩ := zobd h
      refine V_iald 29 rfl dX10_readsUses_28 rfl hi ?_
      obtain ⟨x2, h1, h⟩ := zbd h
      refine V_cV 32 rfl 3 [zI 1, zI x1, zI 14, zI (gi s.2 39 0 (zn v2))] [] dX10_readsUses_29 cv_X10_126 (ctX10_named (Nat.le_refl 3) h1) (Nat.le_trans (by decide) hd) rfl rfl (Nat.le_of_ble_eq_true rfl) zoki rfl ?_
      refine V_istore 34 rfl (L' := [some (zK 10 0), some (zI v1), some (zI v2), some (zI s.1), some (zI x2.1), none, none, none]) dX10_readsUses_32 (by decide) rfl ?_
      refine V_aload_n 35 rfl 0 dX10_readsUses_34 rfl rfl ?_
      obtain ⟨x3, h1, h⟩ := zbd h
      refine V_cV 38 rfl 0 [] [] dX10_readsUses_35 cv_X10_81 (ctX10_isRight (Nat.le_refl 0) h1) (Nat.le_trans (by decide) hd) rfl rfl (Nat.le_of_ble_eq_true rfl) zoki rfl ?_
      refine V_if_ne 41 42 rfl dX10_readsUses_38 (by decide) (fun c => ?_) (fun c => ?_)
      · have h := zneg c h
        refine V_iload_n 43 rfl 1 dX10_readsUses_42 rfl rfl ?_
        refine V_aload_n 44 rfl 0 dX10_readsUses_43 rfl rfl ?_
        refine V_getr 47 rfl 39 0 dX10_readsUses_44 fl_X10_15 rfl rfl rfl ?_
        refine V_iload_n 48 rfl 2 dX10_readsUses_47 rfl rfl ?_
        obtain ⟨hi, h⟩ := zobd h
        refine V_iald 49 rfl dX10_readsUses_48 rfl hi ?_
        obtain ⟨x4, h1, h⟩ := zbd h
        refine V_cS 52 rfl 0 [zI v1, zI (gi x2.2 39 0 (zn v2))] [] dX10_readsUses_49 cs_X10_147 (ctX10_useAt (Nat.le_refl 0) h1) (Nat.le_trans (by decide) hd) rfl rfl (Nat.le_of_ble_eq_true rfl) zoki rfl ?_
        refine V_istore 54 rfl (L' := [some (zK 10 0), some (zI v1), some (zI v2), some (zI s.1), some (zI x2.1), some (zI x4), none, none]) dX10_readsUses_52 (by decide) rfl ?_
        refine V_aload_n 55 rfl 0 dX10_readsUses_54 rfl rfl ?_
        refine V_getr 58 rfl 39 0 dX10_readsUses_55 fl_X10_15 rfl rfl rfl ?_
        refine V_iload 60 rfl dX10_readsUses_58 rfl ?_
        refine V_iload 62 rfl dX10_readsUses_60 rfl ?_
        obtain ⟨hi, h⟩ := zobd h
        refine V_iast 63 rfl dX10_readsUses_62 rfl hi ?_
        refine V_aload_n 64 rfl 0 dX10_readsUses_63 rfl rfl ?_
        refine V_getr 67 rfl 39 0 dX10_readsUses_64 fl_X10_15 rfl rfl rfl ?_
        refine V_iload 69 rfl dX10_readsUses_67 rfl ?_
        refine V_iconst 70 rfl (v := 1) dX10_readsUses_69 (by decide) ?_
        refine V_iadd 71 rfl dX10_readsUses_70 ?_
        refine V_iconst 72 rfl (v := 0) dX10_readsUses_71 (by decide) ?_
        obtain ⟨hi, h⟩ := zobd h
        refine V_iast 73 rfl dX10_readsUses_72 rfl hi ?_
        refine V_aload_n 74 rfl 0 dX10_readsUses_73 rfl rfl ?_
        refine V_getr 77 rfl 39 0 dX10_readsUses_74 fl_X10_15 rfl rfl rfl ?_
        refine V_iload_n 78 rfl 2 dX10_readsUses_77 rfl rfl ?_
        refine V_dup2 79 rfl dX10_readsUses_78 rfl rfl ?_
        obtain ⟨hi, h⟩ := zobd h
        refine V_iald 80 rfl dX10_readsUses_79 rfl hi ?_
        refine V_iconst 81 rfl (v := 1) dX10_readsUses_80 (by decide) ?_
        refine V_iadd 82 rfl dX10_readsUses_81 ?_
        obtain ⟨hi, h⟩ := zobd h
        refine V_iast 83 rfl dX10_readsUses_82 rfl hi ?_
        refine V_aload_n 84 rfl 0 dX10_readsUses_83 rfl rfl ?_
        refine V_bipush 86 rfl (v := 40) dX10_readsUses_84 (by decide) ?_
        obtain ⟨x5, h1, h⟩ := zbd h
        refine V_cV 89 rfl 2 [zI 40] [] dX10_readsUses_86 cv_X10_108 (ctX10_takesSign (Nat.le_refl 2) h1) (Nat.le_trans (by decide) hd) rfl rfl (Nat.le_of_ble_eq_true rfl) zoki rfl ?_
        refine V_if_eq 92 155 rfl dX10_readsUses_89 (by decide) (fun c => ?_) (fun c => ?_)
        · have h := zpos c h
          exact V_w (zsub_s (zsub_s (zsub_s (zsub_n (zsub_n (zsub_n (zsub_s (zsub_s zsub_0)))))))) (wX10_readsUses_J155 hd h kc ke kr)
        · have h := zneg c h
          refine V_aload_n 93 rfl 0 dX10_readsUses_92 rfl rfl ?_
          refine V_iconst 94 rfl (v := 0) dX10_readsUses_93 (by decide) ?_
          refine V_puti 97 rfl dX10_readsUses_94 fw_X10_141 rfl rfl rfl ?_
          refine V_iconst 98 rfl (v := 0) dX10_readsUses_97 (by decide) ?_
          refine V_istore 100 rfl (L' := [some (zK 10 0), some (zI v1), some (zI v2), some (zI s.1), some (zI x2.1), some (zI x4), some (zI 0), none]) dX10_readsUses_98 (by decide) rfl ?_
          refine V_iconst 101 rfl (v := 1) dX10_readsUses_100 (by decide) ?_
          refine V_istore 103 rfl (L' := [some (zK 10 0), some (zI v1), some (zI v2), some (zI s.1), some (zI x2.1), some (zI x4), some (zI 0), some (zI 1)]) dX10_readsUses_101 (by decide) rfl ?_
          obtain ⟨o14, h1, h⟩ := zbd h
          refine V_w (zsub_s (zsub_s (zsub_s (zsub_n (zsub_n (zsub_s (zsub_s (zsub_s zsub_0)))))))) (wX10_readsUses_L103 hd h1 (fun y11 e => ?_))
          have h := zcl_ e h
          refine V_aload_n 150 rfl 0 dX10_readsUses_149 rfl rfl ?_
          refine V_bipush 152 rfl (v := 41) dX10_readsUses_150 (by decide) ?_
          obtain ⟨x13, h1, h⟩ := zbd h
          refine V_cV 155 rfl 3 [zI 41] [] dX10_readsUses_152 cv_X10_144 (ctX10_must (Nat.le_refl 3) h1) (Nat.le_trans (by decide) hd) rfl rfl (Nat.le_of_ble_eq_true rfl) zokn rfl ?_
          exact wX10_readsUses_J155 hd h kc ke kr
      · have h := zpos c h
        exact V_vret dX10_readsUses_41 rfl (kr x2.2 (zinj h))
theorem wX10_readsUses {E : zE} {d : Nat} (hd : 5 ≤ d) {Q : Option zV → zM → Prop} {v1 : Int32} {mm : zM} {o : zM} (h : fX10_readsUses v1 mm = some o) (hQ : ∀ r, o = r → Q none r) : V E RX10 cX10_readsUses 8 none d Q 0 [some (zK 10 0), some (zI v1), none, none, none, none, none, none] [] mm := by
  unfold fX10_readsUses at h
  refine V_bipush 2 rfl (v := 113) dX10_readsUses_0 (by decide) ?_
  refine V_iload_n 3 rfl 1 dX10_readsUses_2 rfl rfl ?_
  refine V_imul 4 rfl dX10_readsUses_3 ?_
  refine V_bipush 6 rfl (v := 7) dX10_readsUses_4 (by decide) ?_
  refine V_iadd 7 rfl dX10_readsUses_6 ?_
  refine V_istore_n 8 rfl 2 (L' := [some (zK 10 0), some (zI v1), some (zI (((113 * v1)) + 7)), none, none, none, none, none]) dX10_readsUses_7 rfl (by decide) rfl ?_
  refine V_iconst 9 rfl (v := 1) dX10_readsUses_8 (by decide) ?_
  refine V_istore_n 10 rfl 3 (L' := [some (zK 10 0), some (zI v1), some (zI (((113 * v1)) + 7)), some (zI 1), none, none, none, none]) dX10_readsUses_9 rfl (by decide) rfl ?_
  obtain ⟨o17, h1, h⟩ := zbd h
  refine wX10_readsUses_L10 hd h1 (fun y15 e => ?_) (fun r e => by have h := zcr_ e h; exact hQ r (zinj h))
  have h := zcl_ e h
  exact V_vret dX10_readsUses_178 rfl (hQ y15 (zinj h))
theorem ctX10_readsUses {E : zE} {d : Nat} (hd : 5 ≤ d) {v1 : Int32} {mm : zM} {o : zM} (h : fX10_readsUses v1 mm = some o) : zOC E yX10_readsUses cX10_readsUses 8 none d [zK 10 0, zI v1] mm none o :=
  zCT_of (by decide) (Nat.le_of_ble_eq_true rfl) (zk_k (zk_i zk_0)) rfl (wX10_readsUses hd h (fun r e => ⟨rfl, by rw [e]⟩))
def fX10_readsParents_L2 (v1 : Int32) (s : (Int32 × zM)) : Option ((Int32 × zM) ⊕ (zM ⊕ Empty)) :=
  if s.1 = 0 then (some (.inr (.inl s.2))) else (zob (zin ((v1 + 2)) 1357) ((fX10_named 0 ((((v1 + 2)) + 1)) 1 ((gi s.2 39 0 (zn ((v1 + 2))))) s.2).bind (fun x1 => (fX10_isRight x1.2).bind (fun x2 => if x2 = 0 then (some (.inl (x2, x1.2))) else (zob (zin ((v1 + 2)) 1357) (zob (zin ((v1 + 2)) 1357) (zob (zin ((v1 + 2)) 1357) (zob (zin ((((v1 + 2)) + ((gi ((wi x1.2 39 0 (zn ((v1 + 2))) ((((gi x1.2 39 0 (zn ((v1 + 2))))) + 1)))) 39 0 (zn ((v1 + 2))))))) 1357) ((fX10_isCapital ((wi ((wi x1.2 39 0 (zn ((v1 + 2))) ((((gi x1.2 39 0 (zn ((v1 + 2))))) + 1)))) 39 0 (zn ((((v1 + 2)) + ((gi ((wi x1.2 39 0 (zn ((v1 + 2))) ((((gi x1.2 39 0 (zn ((v1 + 2))))) + 1)))) 39 0 (zn ((v1 + 2)))))))) x1.1))).bind (fun x3 => some (.inl (x3.1, x3.2))))))))))))
def fX10_readsParents (v1 : Int32) (mm : zM) : Option zM :=
  (zloop (fX10_readsParents_L2 v1) zF (1, mm)).bind (fun o6 => zcase o6 (fun y4 => some y4) (fun r5 => r5.elim))
theorem wX10_readsParents_L2 {E : zE} {d : Nat} (hd : 4 ≤ d) {Q : Option zV → zM → Prop} {v1 : Int32} {n : Nat} {s : (Int32 × zM)} {o : zM ⊕ Empty} (h : zloop (fX10_readsParents_L2 v1) n s = some o) (he : ∀ y : zM, o = .inl y → V E RX10 cX10_readsParents 4 none d Q 73 [none, none, none, none] [] y) : V E RX10 cX10_readsParents 4 none d Q 2 [some (zK 10 0), some (zI v1), some (zI s.1), none] [] s.2 := by
  induction n generalizing s with
  | zero => exact (zloop_0 h).elim
  | succ n ih =>
    obtain ⟨o1, h1, hc1, he1⟩ := zloop_s h
    have kc : ∀ s' : (Int32 × zM), o1 = .inl s' → V E RX10 cX10_readsParents 4 none d Q 2 [some (zK 10 0), some (zI v1), some (zI s'.1), none] [] s'.2 := fun s' e => ih (hc1 s' e)
    have ke : ∀ y : zM, o1 = .inr (.inl y) → V E RX10 cX10_readsParents 4 none d Q 73 [none, none, none, none] [] y := fun y e => he y (he1 _ e)
    clear h hc1 he1 ih
    have h := h1
    clear h1
    unfold fX10_readsParents_L2 at h
    refine V_iload_n 3 rfl 2 dX10_readsParents_2 rfl rfl ?_
    refine V_if_eq 6 73 rfl dX10_readsParents_3 (by decide) (fun c => ?_) (fun c => ?_)
    · have h := zpos c h
      exact V_w (zsub_n (zsub_n (zsub_n (zsub_s zsub_0)))) (ke s.2 (zinj h))
    · have h := zneg c h
      refine V_aload_n 7 rfl 0 dX10_readsParents_6 rfl rfl ?_
      refine V_iconst 8 rfl (v := 0) dX10_readsParents_7 (by decide) ?_
      refine V_iload_n 9 rfl 1 dX10_readsParents_8 rfl rfl ?_
      refine V_iconst 10 rfl (v := 2) dX10_readsParents_9 (by decide) ?_
      refine V_iadd 11 rfl dX10_readsParents_10 ?_
      refine V_iconst 12 rfl (v := 1) dX10_readsParents_11 (by decide) ?_
      refine V_iadd 13 rfl dX10_readsParents_12 ?_
      refine V_iconst 14 rfl (v := 1) dX10_readsParents_13 (by decide) ?_
      refine V_aload_n 15 rfl 0 dX10_readsParents_14 rfl rfl ?_
      refine V_getr 18 rfl 39 0 dX10_readsParents_15 fl_X10_15 rfl rfl rfl ?_
      refine V_iload_n 19 rfl 1 dX10_readsParents_18 rfl rfl ?_
      refine V_iconst 20 rfl (v := 2) dX10_readsParents_19 (by decide) ?_
      refine V_iadd 21 rfl dX10_readsParents_20 ?_
      obtain ⟨hi, h⟩ := zobd h
      refine V_iald 22 rfl dX10_readsParents_21 rfl hi ?_
      obtain ⟨x1, h1, h⟩ := zbd h
      refine V_cV 25 rfl 3 [zI 0, zI (((v1 + 2)) + 1), zI 1, zI (gi s.2 39 0 (zn ((v1 + 2))))] [] dX10_readsParents_22 cv_X10_126 (ctX10_named (Nat.le_refl 3) h1) (Nat.le_trans (by decide) hd) rfl rfl (Nat.le_of_ble_eq_true rfl) zoki rfl ?_
      refine V_istore_n 26 rfl 3 (L' := [some (zK 10 0), some (zI v1), some (zI s.1), some (zI x1.1)]) dX10_readsParents_25 rfl (by decide) rfl ?_
      refine V_aload_n 27 rfl 0 dX10_readsParents_26 rfl rfl ?_
      obtain ⟨x2, h1, h⟩ := zbd h
      refine V_cV 30 rfl 0 [] [] dX10_readsParents_27 cv_X10_81 (ctX10_isRight (Nat.le_refl 0) h1) (Nat.le_trans (by decide) hd) rfl rfl (Nat.le_of_ble_eq_true rfl) zoki rfl ?_
      refine V_istore_n 31 rfl 2 (L' := [some (zK 10 0), some (zI v1), some (zI x2), some (zI x1.1)]) dX10_readsParents_30 rfl (by decide) rfl ?_
      refine V_iload_n 32 rfl 2 dX10_readsParents_31 rfl rfl ?_
      refine V_if_eq 35 70 rfl dX10_readsParents_32 (by decide) (fun c => ?_) (fun c => ?_)
      · have h := zpos c h
        refine V_goto 2 dX10_readsParents_70 (by decide) ?_
        exact V_w (zsub_s (zsub_s (zsub_s (zsub_n zsub_0)))) (kc (x2, x1.2) (zinj h))
      · have h := zneg c h
        refine V_aload_n 36 rfl 0 dX10_readsParents_35 rfl rfl ?_
        refine V_getr 39 rfl 39 0 dX10_readsParents_36 fl_X10_15 rfl rfl rfl ?_
        refine V_iload_n 40 rfl 1 dX10_readsParents_39 rfl rfl ?_
        refine V_iconst 41 rfl (v := 2) dX10_readsParents_40 (by decide) ?_
        refine V_iadd 42 rfl dX10_readsParents_41 ?_
        refine V_dup2 43 rfl dX10_readsParents_42 rfl rfl ?_
        obtain ⟨hi, h⟩ := zobd h
        refine V_iald 44 rfl dX10_readsParents_43 rfl hi ?_
        refine V_iconst 45 rfl (v := 1) dX10_readsParents_44 (by decide) ?_
        refine V_iadd 46 rfl dX10_readsParents_45 ?_
        obtain ⟨hi, h⟩ := zobd h
        refine V_iast 47 rfl dX10_readsParents_46 rfl hi ?_
        refine V_aload_n 48 rfl 0 dX10_readsParents_47 rfl rfl ?_
        refine V_getr 51 rfl 39 0 dX10_readsParents_48 fl_X10_15 rfl rfl rfl ?_
        refine V_iload_n 52 rfl 1 dX10_readsParents_51 rfl rfl ?_
        refine V_iconst 53 rfl (v := 2) dX10_readsParents_52 (by decide) ?_
        refine V_iadd 54 rfl dX10_readsParents_53 ?_
        refine V_aload_n 55 rfl 0 dX10_readsParents_54 rfl rfl ?_
        refine V_getr 58 rfl 39 0 dX10_readsParents_55 fl_X10_15 rfl rfl rfl ?_
        refine V_iload_n 59 rfl 1 dX10_readsParents_58 rfl rfl ?_
        refine V_iconst 60 rfl (v := 2) dX10_readsParents_59 (by decide) ?_
        refine V_iadd 61 rfl dX10_readsParents_60 ?_
        obtain ⟨hi, h⟩ := zobd h
        refine V_iald 62 rfl dX10_readsParents_61 rfl hi ?_
        refine V_iadd 63 rfl dX10_readsParents_62 ?_
        refine V_iload_n 64 rfl 3 dX10_readsParents_63 rfl rfl ?_
        obtain ⟨hi, h⟩ := zobd h
        refine V_iast 65 rfl dX10_readsParents_64 rfl hi ?_
        refine V_aload_n 66 rfl 0 dX10_readsParents_65 rfl rfl ?_
        obtain ⟨x3, h1, h⟩ := zbd h
        refine V_cV 69 rfl 2 [] [] dX10_readsParents_66 cv_X10_119 (ctX10_isCapital (Nat.le_refl 2) h1) (Nat.le_trans (by decide) hd) rfl rfl (Nat.le_of_ble_eq_true rfl) zoki rfl ?_
        refine V_istore_n 70 rfl 2 (L' := [some (zK 10 0), some (zI v1), some (zI x3.1), some (zI x1.1)]) dX10_readsParents_69 rfl (by decide) rfl ?_
        refine V_goto 2 dX10_readsParents_70 (by decide) ?_
        exact V_w (zsub_s (zsub_s (zsub_s (zsub_n zsub_0)))) (kc (x3.1, x3.2) (zinj h))
theorem wX10_readsParents {E : zE} {d : Nat} (hd : 4 ≤ d) {Q : Option zV → zM → Prop} {v1 : Int32} {mm : zM} {o : zM} (h : fX10_readsParents v1 mm = some o) (hQ : ∀ r, o = r → Q none r) : V E RX10 cX10_readsParents 4 none d Q 0 [some (zK 10 0), some (zI v1), none, none] [] mm := by
  unfold fX10_readsParents at h
  refine V_iconst 1 rfl (v := 1) dX10_readsParents_0 (by decide) ?_
  refine V_istore_n 2 rfl 2 (L' := [some (zK 10 0), some (zI v1), some (zI 1), none]) dX10_readsParents_1 rfl (by decide) rfl ?_
  obtain ⟨o6, h1, h⟩ := zbd h
  refine wX10_readsParents_L2 hd h1 (fun y4 e => ?_)
  have h := zcl_ e h
  exact V_vret dX10_readsParents_73 rfl (hQ y4 (zinj h))
theorem ctX10_readsParents {E : zE} {d : Nat} (hd : 4 ≤ d) {v1 : Int32} {mm : zM} {o : zM} (h : fX10_readsParents v1 mm = some o) : zOC E yX10_readsParents cX10_readsParents 4 none d [zK 10 0, zI v1] mm none o :=
  zCT_of (by decide) (Nat.le_of_ble_eq_true rfl) (zk_k (zk_i zk_0)) rfl (wX10_readsParents hd h (fun r e => ⟨rfl, by rw [e]⟩))
def fX10_readsUnit_J72 (mm : zM) : Option zM :=
  (fX10_fails 1 ((gi mm 10 0 8)) mm).bind (fun x4 => some x4)
def fX10_readsUnit_L125 (v2 : Int32) (v3 : Int32) (v4 : Int32) (s : (Int32 × zM)) : Option ((Int32 × zM) ⊕ (zM ⊕ Empty)) :=
  if 113 ≤ s.1 then (some (.inr (.inl s.2))) else (zob (zin ((v4 + s.1)) 1357) (some (.inl ((s.1 + 1), (wi s.2 39 0 (zn ((v4 + s.1))) 0)))))
def fX10_readsUnit_J243 (mm : zM) : Option zM :=
  some ((wi mm 39 0 (zn 1356) ((((gi mm 39 0 (zn 1356))) + 1))))
def fX10_readsUnit_J229 (v3 : Int32) (mm : zM) : Option zM :=
  (fX10_takesSign 58 mm).bind (fun x13 => if x13.1 = 0 then (fX10_readsUnit_J243  x13.2) else ((fX10_readsOwns v3 x13.2).bind (fun x14 => fX10_readsUnit_J243  x14)))
def fX10_readsUnit_J215 (v3 : Int32) (mm : zM) : Option zM :=
  (fX10_takes 3 mm).bind (fun x12 => if x12.1 = 0 then (fX10_readsUnit_J229 v3 x12.2) else ((fX10_readsUses v3 x12.2).bind (fun x15 => fX10_readsUnit_J229 v3 x15)))
def fX10_readsUnit_J166 (v2 : Int32) (v3 : Int32) (v4 : Int32) (s0 : Int32) (s1 : Int32) (mm : zM) : Option zM :=
  (fX10_truth s0 mm).bind (fun x10 => zob (zin s1 1357) ((fX10_sign ((wi mm 39 0 (zn s1) x10))).bind (fun x11 => zob (zin ((v4 + 1)) 1357) (if v2 = 0 then (fX10_readsUnit_J215 v3 ((wi ((wi ((wi mm 39 0 (zn s1) x10)) 39 0 (zn ((v4 + 1))) ((x11 - 65)))) 10 0 8 ((((gi ((wi ((wi mm 39 0 (zn s1) x10)) 39 0 (zn ((v4 + 1))) ((x11 - 65)))) 10 0 8)) + 1))))) else ((fX10_takes 2 ((wi ((wi ((wi mm 39 0 (zn s1) x10)) 39 0 (zn ((v4 + 1))) ((x11 - 65)))) 10 0 8 ((((gi ((wi ((wi mm 39 0 (zn s1) x10)) 39 0 (zn ((v4 + 1))) ((x11 - 65)))) 10 0 8)) + 1))))).bind (fun x16 => if x16.1 = 0 then (fX10_readsUnit_J215 v3 x16.2) else ((fX10_readsParents v4 x16.2).bind (fun x17 => fX10_readsUnit_J215 v3 x17))))))))
def fX10_readsUnit_J58 (v2 : Int32) (mm : zM) : Option zM :=
  (fX10_isRight mm).bind (fun x3 => if x3 = 0 then (fX10_readsUnit_J72  mm) else ((fX10_isCapital mm).bind (fun x5 => if x5.1 = 0 then (fX10_readsUnit_J72  x5.2) else ((fX10_sign x5.2).bind (fun x6 => (fX10_unitOf ((x6 - 65)) x5.2).bind (fun x7 => if x7 = (-1) then ((zloop (fX10_readsUnit_L125 v2 ((gi x5.2 39 0 (zn 1356))) ((113 * ((gi x5.2 39 0 (zn 1356)))))) zF (0, x5.2)).bind (fun o18 => zcase o18 (fun y8 => if v2 = 0 then (fX10_readsUnit_J166 v2 ((gi x5.2 39 0 (zn 1356))) ((113 * ((gi x5.2 39 0 (zn 1356))))) 1 ((((113 * ((gi x5.2 39 0 (zn 1356))))) + 0)) y8) else (fX10_readsUnit_J166 v2 ((gi x5.2 39 0 (zn 1356))) ((113 * ((gi x5.2 39 0 (zn 1356))))) 0 ((((113 * ((gi x5.2 39 0 (zn 1356))))) + 0)) y8)) (fun r9 => r9.elim))) else ((fX10_fails 2 ((gi x5.2 10 0 8)) x5.2).bind (fun x19 => some x19))))))))
def fX10_readsUnit_J39 (v1 : Int32) (v2 : Int32) (mm : zM) : Option zM :=
  if (gi mm 39 0 (zn 1356)) = 12 then ((fX10_fails 3 v1 mm).bind (fun x20 => fX10_readsUnit_J58 v2 x20)) else (fX10_readsUnit_J58 v2 mm)
def fX10_readsUnit (mm : zM) : Option zM :=
  (fX10_next mm).bind (fun x1 => (fX10_takes 1 x1.2).bind (fun x2 => if x2.1 = 0 then ((fX10_takes 0 x2.2).bind (fun x21 => if x21.1 = 0 then ((fX10_fails 1 ((gi x1.2 10 0 8)) x21.2).bind (fun x22 => fX10_readsUnit_J58 x2.1 x22)) else (fX10_readsUnit_J39 ((gi x1.2 10 0 8)) x2.1 x21.2))) else (fX10_readsUnit_J39 ((gi x1.2 10 0 8)) x2.1 x2.2)))
theorem wX10_readsUnit_J72 {E : zE} {d : Nat} (hd : 10 ≤ d) {Q : Option zV → zM → Prop} {mm : zM} {o : zM} (h : fX10_readsUnit_J72  mm = some o) (hQ : ∀ r, o = r → Q none r) : V E RX10 cX10_readsUnit 6 none d Q 72 [some (zK 10 0), none, none, none, none, none] [] mm := by
  unfold fX10_readsUnit_J72 at h
  refine V_aload_n 73 rfl 0 dX10_readsUnit_72 rfl rfl ?_
  refine V_iconst 74 rfl (v := 1) dX10_readsUnit_73 (by decide) ?_
  refine V_aload_n 75 rfl 0 dX10_readsUnit_74 rfl rfl ?_
  refine V_geti 78 rfl dX10_readsUnit_75 fl_X10_71 rfl ?_
  obtain ⟨x4, h1, h⟩ := zbd h
  refine V_cV 81 rfl 1 [zI 1, zI (gi mm 10 0 8)] [] dX10_readsUnit_78 cv_X10_112 (ctX10_fails (Nat.le_refl 1) h1) (Nat.le_trans (by decide) hd) rfl rfl (Nat.le_of_ble_eq_true rfl) zokn rfl ?_
  exact V_vret dX10_readsUnit_81 rfl (hQ x4 (zinj h))
theorem wX10_readsUnit_L125 {E : zE} {d : Nat} (hd : 10 ≤ d) {Q : Option zV → zM → Prop} {v2 : Int32} {v3 : Int32} {v4 : Int32} {n : Nat} {s : (Int32 × zM)} {o : zM ⊕ Empty} (h : zloop (fX10_readsUnit_L125 v2 v3 v4) n s = some o) (he : ∀ y : zM, o = .inl y → V E RX10 cX10_readsUnit 6 none d Q 149 [some (zK 10 0), none, some (zI v2), some (zI v3), some (zI v4), none] [] y) : V E RX10 cX10_readsUnit 6 none d Q 125 [some (zK 10 0), none, some (zI v2), some (zI v3), some (zI v4), some (zI s.1)] [] s.2 := by
  induction n generalizing s with
  | zero => exact (zloop_0 h).elim
  | succ n ih =>
    obtain ⟨o1, h1, hc1, he1⟩ := zloop_s h
    have kc : ∀ s' : (Int32 × zM), o1 = .inl s' → V E RX10 cX10_readsUnit 6 none d Q 125 [some (zK 10 0), none, some (zI v2), some (zI v3), some (zI v4), some (zI s'.1)] [] s'.2 := fun s' e => ih (hc1 s' e)
    have ke : ∀ y : zM, o1 = .inr (.inl y) → V E RX10 cX10_readsUnit 6 none d Q 149 [some (zK 10 0), none, some (zI v2), some (zI v3), some (zI v4), none] [] y := fun y e => he y (he1 _ e)
    clear h hc1 he1 ih
    have h := h1
    clear h1
    unfold fX10_readsUnit_L125 at h
    refine V_iload 127 rfl dX10_readsUnit_125 rfl ?_
    refine V_bipush 129 rfl (v := 113) dX10_readsUnit_127 (by decide) ?_
    refine V_icmp_ge 132 149 rfl dX10_readsUnit_129 (by decide) (fun c => ?_) (fun c => ?_)
    · have h := zpos c h
      exact V_w (zsub_s (zsub_s (zsub_s (zsub_s (zsub_s (zsub_n zsub_0)))))) (ke s.2 (zinj h))
    · have h := zneg c h
      refine V_aload_n 133 rfl 0 dX10_readsUnit_132 rfl rfl ?_
      refine V_getr 136 rfl 39 0 dX10_readsUnit_133 fl_X10_15 rfl rfl rfl ?_
      refine V_iload 138 rfl dX10_readsUnit_136 rfl ?_
      refine V_iload 140 rfl dX10_readsUnit_138 rfl ?_
      refine V_iadd 141 rfl dX10_readsUnit_140 ?_
      refine V_iconst 142 rfl (v := 0) dX10_readsUnit_141 (by decide) ?_
      obtain ⟨hi, h⟩ := zobd h
      refine V_iast 143 rfl dX10_readsUnit_142 rfl hi ?_
      refine V_iinc 146 rfl (s.1 + 1) (L' := [some (zK 10 0), none, some (zI v2), some (zI v3), some (zI v4), some (zI (s.1 + 1))]) dX10_readsUnit_143 rfl rfl (by decide) rfl ?_
      refine V_goto 125 dX10_readsUnit_146 (by decide) ?_
      exact kc ((s.1 + 1), (wi s.2 39 0 (zn ((v4 + s.1))) 0)) (zinj h)
theorem wX10_readsUnit_J243 {E : zE} {d : Nat} (hd : 10 ≤ d) {Q : Option zV → zM → Prop} {mm : zM} {o : zM} (h : fX10_readsUnit_J243  mm = some o) (hQ : ∀ r, o = r → Q none r) : V E RX10 cX10_readsUnit 6 none d Q 243 [some (zK 10 0), none, none, none, none, none] [] mm := by
  unfold fX10_readsUnit_J243 at h
  refine V_aload_n 244 rfl 0 dX10_readsUnit_243 rfl rfl ?_
  refine V_getr 247 rfl 39 0 dX10_readsUnit_244 fl_X10_15 rfl rfl rfl ?_
  refine V_sipush 250 rfl (v := 1356) dX10_readsUnit_247 (by decide) ?_
  refine V_dup2 251 rfl dX10_readsUnit_250 rfl rfl ?_
  refine V_iald 252 rfl dX10_readsUnit_251 rfl (by decide) ?_
  refine V_iconst 253 rfl (v := 1) dX10_readsUnit_252 (by decide) ?_
  refine V_iadd 254 rfl dX10_readsUnit_253 ?_
  refine V_iast 255 rfl dX10_readsUnit_254 rfl (by decide) ?_
  exact V_vret dX10_readsUnit_255 rfl (hQ ((wi mm 39 0 (zn 1356) ((((gi mm 39 0 (zn 1356))) + 1)))) (zinj h))
theorem wX10_readsUnit_J229 {E : zE} {d : Nat} (hd : 10 ≤ d) {Q : Option zV → zM → Prop} {v3 : Int32} {mm : zM} {o : zM} (h : fX10_readsUnit_J229 v3 mm = some o) (hQ : ∀ r, o = r → Q none r) : V E RX10 cX10_readsUnit 6 none d Q 229 [some (zK 10 0), none, none, some (zI v3), none, none] [] mm := by
  unfold fX10_readsUnit_J229 at h
  refine V_aload_n 230 rfl 0 dX10_readsUnit_229 rfl rfl ?_
  refine V_bipush 232 rfl (v := 58) dX10_readsUnit_230 (by decide) ?_
  obtain ⟨x13, h1, h⟩ := zbd h
  refine V_cV 235 rfl 2 [zI 58] [] dX10_readsUnit_232 cv_X10_108 (ctX10_takesSign (Nat.le_refl 2) h1) (Nat.le_trans (by decide) hd) rfl rfl (Nat.le_of_ble_eq_true rfl) zoki rfl ?_
  refine V_if_eq 238 243 rfl dX10_readsUnit_235 (by decide) (fun c => ?_) (fun c => ?_)
  · have h := zpos c h
    exact V_w (zsub_s (zsub_s (zsub_s (zsub_n (zsub_s (zsub_s zsub_0)))))) (wX10_readsUnit_J243 hd h hQ)
  · have h := zneg c h
    refine V_aload_n 239 rfl 0 dX10_readsUnit_238 rfl rfl ?_
    refine V_iload_n 240 rfl 3 dX10_readsUnit_239 rfl rfl ?_
    obtain ⟨x14, h1, h⟩ := zbd h
    refine V_cV 243 rfl 9 [zI v3] [] dX10_readsUnit_240 cv_X10_188 (ctX10_readsOwns (Nat.le_refl 9) h1) (Nat.le_trans (by decide) hd) rfl rfl (Nat.le_of_ble_eq_true rfl) zokn rfl ?_
    exact V_w (zsub_s (zsub_s (zsub_s (zsub_n (zsub_s (zsub_s zsub_0)))))) (wX10_readsUnit_J243 hd h hQ)
theorem wX10_readsUnit_J215 {E : zE} {d : Nat} (hd : 10 ≤ d) {Q : Option zV → zM → Prop} {v3 : Int32} {mm : zM} {o : zM} (h : fX10_readsUnit_J215 v3 mm = some o) (hQ : ∀ r, o = r → Q none r) : V E RX10 cX10_readsUnit 6 none d Q 215 [some (zK 10 0), none, none, some (zI v3), none, none] [] mm := by
  unfold fX10_readsUnit_J215 at h
  refine V_aload_n 216 rfl 0 dX10_readsUnit_215 rfl rfl ?_
  refine V_ldcS 218 rfl (tx := "uses") (i := 3) dX10_readsUnit_216 (by decide) (by decide) ?_
  obtain ⟨x12, h1, h⟩ := zbd h
  refine V_cV 221 rfl 6 [zK 61 3] [] dX10_readsUnit_218 cv_X10_161 (ctX10_takes (Nat.le_refl 6) h1) (Nat.le_trans (by decide) hd) rfl rfl (Nat.le_of_ble_eq_true rfl) zoki rfl ?_
  refine V_if_eq 224 229 rfl dX10_readsUnit_221 (by decide) (fun c => ?_) (fun c => ?_)
  · have h := zpos c h
    exact wX10_readsUnit_J229 hd h hQ
  · have h := zneg c h
    refine V_aload_n 225 rfl 0 dX10_readsUnit_224 rfl rfl ?_
    refine V_iload_n 226 rfl 3 dX10_readsUnit_225 rfl rfl ?_
    obtain ⟨x15, h1, h⟩ := zbd h
    refine V_cV 229 rfl 5 [zI v3] [] dX10_readsUnit_226 cv_X10_185 (ctX10_readsUses (Nat.le_refl 5) h1) (Nat.le_trans (by decide) hd) rfl rfl (Nat.le_of_ble_eq_true rfl) zokn rfl ?_
    exact wX10_readsUnit_J229 hd h hQ
theorem wX10_readsUnit_J166 {E : zE} {d : Nat} (hd : 10 ≤ d) {Q : Option zV → zM → Prop} {v2 : Int32} {v3 : Int32} {v4 : Int32} {s0 : Int32} {s1 : Int32} {mm : zM} {o : zM} (h : fX10_readsUnit_J166 v2 v3 v4 s0 s1 mm = some o) (hQ : ∀ r, o = r → Q none r) : V E RX10 cX10_readsUnit 6 none d Q 166 [some (zK 10 0), none, some (zI v2), some (zI v3), some (zI v4), none] [zI s0, zI s1, zK 39 0] mm := by
  unfold fX10_readsUnit_J166 at h
  obtain ⟨x10, h1, h⟩ := zbd h
  refine V_cS 169 rfl 0 [zI s0] [zI s1, zK 39 0] dX10_readsUnit_166 cs_X10_104 (ctX10_truth (Nat.le_refl 0) h1) (Nat.le_trans (by decide) hd) rfl rfl (Nat.le_of_ble_eq_true rfl) zoki rfl ?_
  obtain ⟨hi, h⟩ := zobd h
  refine V_iast 170 rfl dX10_readsUnit_169 rfl hi ?_
  refine V_aload_n 171 rfl 0 dX10_readsUnit_170 rfl rfl ?_
  refine V_getr 174 rfl 39 0 dX10_readsUnit_171 fl_X10_15 rfl rfl rfl ?_
  refine V_iload 176 rfl dX10_readsUnit_174 rfl ?_
  refine V_iconst 177 rfl (v := 1) dX10_readsUnit_176 (by decide) ?_
  refine V_iadd 178 rfl dX10_readsUnit_177 ?_
  refine V_aload_n 179 rfl 0 dX10_readsUnit_178 rfl rfl ?_
  obtain ⟨x11, h1, h⟩ := zbd h
  refine V_cV 182 rfl 0 [] [zI (v4 + 1), zK 39 0] dX10_readsUnit_179 cv_X10_74 (ctX10_sign (Nat.le_refl 0) h1) (Nat.le_trans (by decide) hd) rfl rfl (Nat.le_of_ble_eq_true rfl) zoki rfl ?_
  refine V_bipush 184 rfl (v := 65) dX10_readsUnit_182 (by decide) ?_
  refine V_isub 185 rfl dX10_readsUnit_184 ?_
  obtain ⟨hi, h⟩ := zobd h
  refine V_iast 186 rfl dX10_readsUnit_185 rfl hi ?_
  refine V_aload_n 187 rfl 0 dX10_readsUnit_186 rfl rfl ?_
  refine V_dup 188 rfl dX10_readsUnit_187 rfl ?_
  refine V_geti 191 rfl dX10_readsUnit_188 fl_X10_71 rfl ?_
  refine V_iconst 192 rfl (v := 1) dX10_readsUnit_191 (by decide) ?_
  refine V_iadd 193 rfl dX10_readsUnit_192 ?_
  refine V_puti 196 rfl dX10_readsUnit_193 fw_X10_71 rfl rfl rfl ?_
  refine V_iload_n 197 rfl 2 dX10_readsUnit_196 rfl rfl ?_
  refine V_if_eq 200 215 rfl dX10_readsUnit_197 (by decide) (fun c => ?_) (fun c => ?_)
  · have h := zpos c h
    exact V_w (zsub_s (zsub_s (zsub_n (zsub_s (zsub_n (zsub_s zsub_0)))))) (wX10_readsUnit_J215 hd h hQ)
  · have h := zneg c h
    refine V_aload_n 201 rfl 0 dX10_readsUnit_200 rfl rfl ?_
    refine V_ldcS 203 rfl (tx := "of") (i := 2) dX10_readsUnit_201 (by decide) (by decide) ?_
    obtain ⟨x16, h1, h⟩ := zbd h
    refine V_cV 206 rfl 6 [zK 61 2] [] dX10_readsUnit_203 cv_X10_161 (ctX10_takes (Nat.le_refl 6) h1) (Nat.le_trans (by decide) hd) rfl rfl (Nat.le_of_ble_eq_true rfl) zoki rfl ?_
    refine V_if_eq 209 215 rfl dX10_readsUnit_206 (by decide) (fun c => ?_) (fun c => ?_)
    · have h := zpos c h
      exact V_w (zsub_s (zsub_s (zsub_n (zsub_s (zsub_n (zsub_s zsub_0)))))) (wX10_readsUnit_J215 hd h hQ)
    · have h := zneg c h
      refine V_aload_n 210 rfl 0 dX10_readsUnit_209 rfl rfl ?_
      refine V_iload 212 rfl dX10_readsUnit_210 rfl ?_
      obtain ⟨x17, h1, h⟩ := zbd h
      refine V_cV 215 rfl 4 [zI v4] [] dX10_readsUnit_212 cv_X10_180 (ctX10_readsParents (Nat.le_refl 4) h1) (Nat.le_trans (by decide) hd) rfl rfl (Nat.le_of_ble_eq_true rfl) zokn rfl ?_
      exact V_w (zsub_s (zsub_s (zsub_n (zsub_s (zsub_n (zsub_s zsub_0)))))) (wX10_readsUnit_J215 hd h hQ)
theorem wX10_readsUnit_J58 {E : zE} {d : Nat} (hd : 10 ≤ d) {Q : Option zV → zM → Prop} {v2 : Int32} {mm : zM} {o : zM} (h : fX10_readsUnit_J58 v2 mm = some o) (hQ : ∀ r, o = r → Q none r) : V E RX10 cX10_readsUnit 6 none d Q 58 [some (zK 10 0), none, some (zI v2), none, none, none] [] mm := by
  unfold fX10_readsUnit_J58 at h
  refine V_aload_n 59 rfl 0 dX10_readsUnit_58 rfl rfl ?_
  obtain ⟨x3, h1, h⟩ := zbd h
  refine V_cV 62 rfl 0 [] [] dX10_readsUnit_59 cv_X10_81 (ctX10_isRight (Nat.le_refl 0) h1) (Nat.le_trans (by decide) hd) rfl rfl (Nat.le_of_ble_eq_true rfl) zoki rfl ?_
  refine V_if_eq 65 72 rfl dX10_readsUnit_62 (by decide) (fun c => ?_) (fun c => ?_)
  · have h := zpos c h
    exact V_w (zsub_s (zsub_s (zsub_n (zsub_s (zsub_s (zsub_s zsub_0)))))) (wX10_readsUnit_J72 hd h hQ)
  · have h := zneg c h
    refine V_aload_n 66 rfl 0 dX10_readsUnit_65 rfl rfl ?_
    obtain ⟨x5, h1, h⟩ := zbd h
    refine V_cV 69 rfl 2 [] [] dX10_readsUnit_66 cv_X10_119 (ctX10_isCapital (Nat.le_refl 2) h1) (Nat.le_trans (by decide) hd) rfl rfl (Nat.le_of_ble_eq_true rfl) zoki rfl ?_
    refine V_if_ne 72 82 rfl dX10_readsUnit_69 (by decide) (fun c => ?_) (fun c => ?_)
    · have h := zneg c h
      refine V_aload_n 83 rfl 0 dX10_readsUnit_82 rfl rfl ?_
      refine V_aload_n 84 rfl 0 dX10_readsUnit_83 rfl rfl ?_
      obtain ⟨x6, h1, h⟩ := zbd h
      refine V_cV 87 rfl 0 [] [zK 10 0] dX10_readsUnit_84 cv_X10_74 (ctX10_sign (Nat.le_refl 0) h1) (Nat.le_trans (by decide) hd) rfl rfl (Nat.le_of_ble_eq_true rfl) zoki rfl ?_
      refine V_bipush 89 rfl (v := 65) dX10_readsUnit_87 (by decide) ?_
      refine V_isub 90 rfl dX10_readsUnit_89 ?_
      obtain ⟨x7, h1, h⟩ := zbd h
      refine V_cV 93 rfl 0 [zI (x6 - 65)] [] dX10_readsUnit_90 cv_X10_122 (ctX10_unitOf (Nat.le_refl 0) h1) (Nat.le_trans (by decide) hd) rfl rfl (Nat.le_of_ble_eq_true rfl) zoki rfl ?_
      refine V_iconst 94 rfl (v := (-1)) dX10_readsUnit_93 (by decide) ?_
      refine V_icmp_eq 97 107 rfl dX10_readsUnit_94 (by decide) (fun c => ?_) (fun c => ?_)
      · have h := zpos c h
        refine V_aload_n 108 rfl 0 dX10_readsUnit_107 rfl rfl ?_
        refine V_getr 111 rfl 39 0 dX10_readsUnit_108 fl_X10_15 rfl rfl rfl ?_
        refine V_sipush 114 rfl (v := 1356) dX10_readsUnit_111 (by decide) ?_
        refine V_iald 115 rfl dX10_readsUnit_114 rfl (by decide) ?_
        refine V_istore_n 116 rfl 3 (L' := [some (zK 10 0), none, some (zI v2), some (zI (gi x5.2 39 0 (zn 1356))), none, none]) dX10_readsUnit_115 rfl (by decide) rfl ?_
        refine V_bipush 118 rfl (v := 113) dX10_readsUnit_116 (by decide) ?_
        refine V_iload_n 119 rfl 3 dX10_readsUnit_118 rfl rfl ?_
        refine V_imul 120 rfl dX10_readsUnit_119 ?_
        refine V_istore 122 rfl (L' := [some (zK 10 0), none, some (zI v2), some (zI (gi x5.2 39 0 (zn 1356))), some (zI (113 * ((gi x5.2 39 0 (zn 1356))))), none]) dX10_readsUnit_120 (by decide) rfl ?_
        refine V_iconst 123 rfl (v := 0) dX10_readsUnit_122 (by decide) ?_
        refine V_istore 125 rfl (L' := [some (zK 10 0), none, some (zI v2), some (zI (gi x5.2 39 0 (zn 1356))), some (zI (113 * ((gi x5.2 39 0 (zn 1356))))), some (zI 0)]) dX10_readsUnit_123 (by decide) rfl ?_
        obtain ⟨o18, h1, h⟩ := zbd h
        refine wX10_readsUnit_L125 hd h1 (fun y8 e => ?_)
        have h := zcl_ e h
        refine V_aload_n 150 rfl 0 dX10_readsUnit_149 rfl rfl ?_
        refine V_getr 153 rfl 39 0 dX10_readsUnit_150 fl_X10_15 rfl rfl rfl ?_
        refine V_iload 155 rfl dX10_readsUnit_153 rfl ?_
        refine V_iconst 156 rfl (v := 0) dX10_readsUnit_155 (by decide) ?_
        refine V_iadd 157 rfl dX10_readsUnit_156 ?_
        refine V_iload_n 158 rfl 2 dX10_readsUnit_157 rfl rfl ?_
        refine V_if_ne 161 165 rfl dX10_readsUnit_158 (by decide) (fun c => ?_) (fun c => ?_)
        · have h := zneg c h
          refine V_iconst 166 rfl (v := 0) dX10_readsUnit_165 (by decide) ?_
          exact wX10_readsUnit_J166 hd h hQ
        · have h := zpos c h
          refine V_iconst 162 rfl (v := 1) dX10_readsUnit_161 (by decide) ?_
          refine V_goto 166 dX10_readsUnit_162 (by decide) ?_
          exact wX10_readsUnit_J166 hd h hQ
      · have h := zneg c h
        refine V_aload_n 98 rfl 0 dX10_readsUnit_97 rfl rfl ?_
        refine V_iconst 99 rfl (v := 2) dX10_readsUnit_98 (by decide) ?_
        refine V_aload_n 100 rfl 0 dX10_readsUnit_99 rfl rfl ?_
        refine V_geti 103 rfl dX10_readsUnit_100 fl_X10_71 rfl ?_
        obtain ⟨x19, h1, h⟩ := zbd h
        refine V_cV 106 rfl 1 [zI 2, zI (gi x5.2 10 0 8)] [] dX10_readsUnit_103 cv_X10_112 (ctX10_fails (Nat.le_refl 1) h1) (Nat.le_trans (by decide) hd) rfl rfl (Nat.le_of_ble_eq_true rfl) zokn rfl ?_
        exact V_vret dX10_readsUnit_106 rfl (hQ x19 (zinj h))
    · have h := zpos c h
      exact V_w (zsub_s (zsub_s (zsub_n (zsub_s (zsub_s (zsub_s zsub_0)))))) (wX10_readsUnit_J72 hd h hQ)
theorem wX10_readsUnit_J39 {E : zE} {d : Nat} (hd : 10 ≤ d) {Q : Option zV → zM → Prop} {v1 : Int32} {v2 : Int32} {mm : zM} {o : zM} (h : fX10_readsUnit_J39 v1 v2 mm = some o) (hQ : ∀ r, o = r → Q none r) : V E RX10 cX10_readsUnit 6 none d Q 39 [some (zK 10 0), some (zI v1), some (zI v2), none, none, none] [] mm := by
  unfold fX10_readsUnit_J39 at h
  refine V_aload_n 40 rfl 0 dX10_readsUnit_39 rfl rfl ?_
  refine V_getr 43 rfl 39 0 dX10_readsUnit_40 fl_X10_15 rfl rfl rfl ?_
  refine V_sipush 46 rfl (v := 1356) dX10_readsUnit_43 (by decide) ?_
  refine V_iald 47 rfl dX10_readsUnit_46 rfl (by decide) ?_
  refine V_bipush 49 rfl (v := 12) dX10_readsUnit_47 (by decide) ?_
  refine V_icmp_ne 52 58 rfl dX10_readsUnit_49 (by decide) (fun c => ?_) (fun c => ?_)
  · have h := zneg c h
    exact V_w (zsub_s (zsub_n (zsub_s (zsub_s (zsub_s (zsub_s zsub_0)))))) (wX10_readsUnit_J58 hd h hQ)
  · have h := zpos c h
    refine V_aload_n 53 rfl 0 dX10_readsUnit_52 rfl rfl ?_
    refine V_iconst 54 rfl (v := 3) dX10_readsUnit_53 (by decide) ?_
    refine V_iload_n 55 rfl 1 dX10_readsUnit_54 rfl rfl ?_
    obtain ⟨x20, h1, h⟩ := zbd h
    refine V_cV 58 rfl 1 [zI 3, zI v1] [] dX10_readsUnit_55 cv_X10_112 (ctX10_fails (Nat.le_refl 1) h1) (Nat.le_trans (by decide) hd) rfl rfl (Nat.le_of_ble_eq_true rfl) zokn rfl ?_
    exact V_w (zsub_s (zsub_n (zsub_s (zsub_s (zsub_s (zsub_s zsub_0)))))) (wX10_readsUnit_J58 hd h hQ)
theorem wX10_readsUnit {E : zE} {d : Nat} (hd : 10 ≤ d) {Q : Option zV → zM → Prop} {mm : zM} {o : zM} (h : fX10_readsUnit mm = some o) (hQ : ∀ r, o = r → Q none r) : V E RX10 cX10_readsUnit 6 none d Q 0 [some (zK 10 0), none, none, none, none, none] [] mm := by
  unfold fX10_readsUnit at h
  refine V_aload_n 1 rfl 0 dX10_readsUnit_0 rfl rfl ?_
  obtain ⟨x1, h1, h⟩ := zbd h
  refine V_cV 4 rfl 1 [] [] dX10_readsUnit_1 cv_X10_85 (ctX10_next (Nat.le_refl 1) h1) (Nat.le_trans (by decide) hd) rfl rfl (Nat.le_of_ble_eq_true rfl) zoki rfl ?_
  refine V_pop 5 rfl dX10_readsUnit_4 rfl ?_
  refine V_aload_n 6 rfl 0 dX10_readsUnit_5 rfl rfl ?_
  refine V_geti 9 rfl dX10_readsUnit_6 fl_X10_71 rfl ?_
  refine V_istore_n 10 rfl 1 (L' := [some (zK 10 0), some (zI (gi x1.2 10 0 8)), none, none, none, none]) dX10_readsUnit_9 rfl (by decide) rfl ?_
  refine V_aload_n 11 rfl 0 dX10_readsUnit_10 rfl rfl ?_
  refine V_ldcS 13 rfl (tx := "type") (i := 1) dX10_readsUnit_11 (by decide) (by decide) ?_
  obtain ⟨x2, h1, h⟩ := zbd h
  refine V_cV 16 rfl 6 [zK 61 1] [] dX10_readsUnit_13 cv_X10_161 (ctX10_takes (Nat.le_refl 6) h1) (Nat.le_trans (by decide) hd) rfl rfl (Nat.le_of_ble_eq_true rfl) zoki rfl ?_
  refine V_istore_n 17 rfl 2 (L' := [some (zK 10 0), some (zI (gi x1.2 10 0 8)), some (zI x2.1), none, none, none]) dX10_readsUnit_16 rfl (by decide) rfl ?_
  refine V_iload_n 18 rfl 2 dX10_readsUnit_17 rfl rfl ?_
  refine V_if_ne 21 39 rfl dX10_readsUnit_18 (by decide) (fun c => ?_) (fun c => ?_)
  · have h := zneg c h
    exact wX10_readsUnit_J39 hd h hQ
  · have h := zpos c h
    refine V_aload_n 22 rfl 0 dX10_readsUnit_21 rfl rfl ?_
    refine V_ldcS 24 rfl (tx := "trait") (i := 0) dX10_readsUnit_22 (by decide) (by decide) ?_
    obtain ⟨x21, h1, h⟩ := zbd h
    refine V_cV 27 rfl 6 [zK 61 0] [] dX10_readsUnit_24 cv_X10_161 (ctX10_takes (Nat.le_refl 6) h1) (Nat.le_trans (by decide) hd) rfl rfl (Nat.le_of_ble_eq_true rfl) zoki rfl ?_
    refine V_if_ne 30 39 rfl dX10_readsUnit_27 (by decide) (fun c => ?_) (fun c => ?_)
    · have h := zneg c h
      exact wX10_readsUnit_J39 hd h hQ
    · have h := zpos c h
      refine V_aload_n 31 rfl 0 dX10_readsUnit_30 rfl rfl ?_
      refine V_iconst 32 rfl (v := 1) dX10_readsUnit_31 (by decide) ?_
      refine V_iload_n 33 rfl 1 dX10_readsUnit_32 rfl rfl ?_
      obtain ⟨x22, h1, h⟩ := zbd h
      refine V_cV 36 rfl 1 [zI 1, zI (gi x1.2 10 0 8)] [] dX10_readsUnit_33 cv_X10_112 (ctX10_fails (Nat.le_refl 1) h1) (Nat.le_trans (by decide) hd) rfl rfl (Nat.le_of_ble_eq_true rfl) zokn rfl ?_
      refine V_goto 58 dX10_readsUnit_36 (by decide) ?_
      exact V_w (zsub_s (zsub_n (zsub_s (zsub_s (zsub_s (zsub_s zsub_0)))))) (wX10_readsUnit_J58 hd h hQ)
theorem ctX10_readsUnit {E : zE} {d : Nat} (hd : 10 ≤ d) {mm : zM} {o : zM} (h : fX10_readsUnit mm = some o) : zOC E yX10_readsUnit cX10_readsUnit 6 none d [zK 10 0] mm none o :=
  zCT_of (by decide) (Nat.le_of_ble_eq_true rfl) (zk_k zk_0) rfl (wX10_readsUnit hd h (fun r e => ⟨rfl, by rw [e]⟩))
def fX10_moves_39_38_L3 (v1 : Int32) (v3 : Int32) (s : (Int32 × zM)) : Option ((Int32 × zM) ⊕ (zM ⊕ Empty)) :=
  if 1357 ≤ s.1 then (some (.inr (.inl s.2))) else (zob (zin ((v1 + s.1)) 1357) (zob (zin ((v3 + s.1)) 1357) (some (.inl ((s.1 + 1), (wi s.2 38 0 (zn ((v3 + s.1))) ((gi s.2 39 0 (zn ((v1 + s.1)))))))))))
def fX10_moves_39_38 (v1 : Int32) (v3 : Int32) (mm : zM) : Option zM :=
  (zloop (fX10_moves_39_38_L3 v1 v3) zF (0, mm)).bind (fun o3 => zcase o3 (fun y1 => some y1) (fun r2 => r2.elim))
theorem wX10_moves_39_38_L3 {E : zE} {d : Nat} (hd : 0 ≤ d) {Q : Option zV → zM → Prop} {v1 : Int32} {v3 : Int32} {n : Nat} {s : (Int32 × zM)} {o : zM ⊕ Empty} (h : zloop (fX10_moves_39_38_L3 v1 v3) n s = some o) (he : ∀ y : zM, o = .inl y → V E RX10 cX10_moves 5 none d Q 29 [none, none, none, none, none] [] y) : V E RX10 cX10_moves 5 none d Q 3 [some (zK 39 0), some (zI v1), some (zK 38 0), some (zI v3), some (zI s.1)] [] s.2 := by
  induction n generalizing s with
  | zero => exact (zloop_0 h).elim
  | succ n ih =>
    obtain ⟨o1, h1, hc1, he1⟩ := zloop_s h
    have kc : ∀ s' : (Int32 × zM), o1 = .inl s' → V E RX10 cX10_moves 5 none d Q 3 [some (zK 39 0), some (zI v1), some (zK 38 0), some (zI v3), some (zI s'.1)] [] s'.2 := fun s' e => ih (hc1 s' e)
    have ke : ∀ y : zM, o1 = .inr (.inl y) → V E RX10 cX10_moves 5 none d Q 29 [none, none, none, none, none] [] y := fun y e => he y (he1 _ e)
    clear h hc1 he1 ih
    have h := h1
    clear h1
    unfold fX10_moves_39_38_L3 at h
    refine V_iload 5 rfl dX10_moves_3 rfl ?_
    refine V_sipush 8 rfl (v := 1357) dX10_moves_5 (by decide) ?_
    refine V_icmp_ge 11 29 rfl dX10_moves_8 (by decide) (fun c => ?_) (fun c => ?_)
    · have h := zpos c h
      exact V_w (zsub_n (zsub_n (zsub_n (zsub_n (zsub_n zsub_0))))) (ke s.2 (zinj h))
    · have h := zneg c h
      refine V_aload_n 12 rfl 2 dX10_moves_11 rfl rfl ?_
      refine V_iload_n 13 rfl 3 dX10_moves_12 rfl rfl ?_
      refine V_iload 15 rfl dX10_moves_13 rfl ?_
      refine V_iadd 16 rfl dX10_moves_15 ?_
      refine V_aload_n 17 rfl 0 dX10_moves_16 rfl rfl ?_
      refine V_iload_n 18 rfl 1 dX10_moves_17 rfl rfl ?_
      refine V_iload 20 rfl dX10_moves_18 rfl ?_
      refine V_iadd 21 rfl dX10_moves_20 ?_
      obtain ⟨hi, h⟩ := zobd h
      refine V_iald 22 rfl dX10_moves_21 rfl hi ?_
      obtain ⟨hi, h⟩ := zobd h
      refine V_iast 23 rfl dX10_moves_22 rfl hi ?_
      refine V_iinc 26 rfl (s.1 + 1) (L' := [some (zK 39 0), some (zI v1), some (zK 38 0), some (zI v3), some (zI (s.1 + 1))]) dX10_moves_23 rfl rfl (by decide) rfl ?_
      refine V_goto 3 dX10_moves_26 (by decide) ?_
      exact kc ((s.1 + 1), (wi s.2 38 0 (zn ((v3 + s.1))) ((gi s.2 39 0 (zn ((v1 + s.1))))))) (zinj h)
theorem wX10_moves_39_38 {E : zE} {d : Nat} (hd : 0 ≤ d) {Q : Option zV → zM → Prop} {v1 : Int32} {v3 : Int32} {mm : zM} {o : zM} (h : fX10_moves_39_38 v1 v3 mm = some o) (hQ : ∀ r, o = r → Q none r) : V E RX10 cX10_moves 5 none d Q 0 [some (zK 39 0), some (zI v1), some (zK 38 0), some (zI v3), none] [] mm := by
  unfold fX10_moves_39_38 at h
  refine V_iconst 1 rfl (v := 0) dX10_moves_0 (by decide) ?_
  refine V_istore 3 rfl (L' := [some (zK 39 0), some (zI v1), some (zK 38 0), some (zI v3), some (zI 0)]) dX10_moves_1 (by decide) rfl ?_
  obtain ⟨o3, h1, h⟩ := zbd h
  refine wX10_moves_39_38_L3 hd h1 (fun y1 e => ?_)
  have h := zcl_ e h
  exact V_vret dX10_moves_29 rfl (hQ y1 (zinj h))
theorem ctX10_moves_39_38 {E : zE} {d : Nat} (hd : 0 ≤ d) {v1 : Int32} {v3 : Int32} {mm : zM} {o : zM} (h : fX10_moves_39_38 v1 v3 mm = some o) : zOC E yX10_moves cX10_moves 5 none d [zK 39 0, zI v1, zK 38 0, zI v3] mm none o :=
  zCT_of (by decide) (Nat.le_of_ble_eq_true rfl) (zk_k (zk_i (zk_k (zk_i zk_0)))) rfl (wX10_moves_39_38 hd h (fun r e => ⟨rfl, by rw [e]⟩))
def fX10_tell_L33 (s : (Int32 × zM)) : Option ((Int32 × zM) ⊕ (zM ⊕ Empty)) :=
  if s.1 = 0 then (some (.inr (.inl s.2))) else ((fX10_readsUnit s.2).bind (fun x2 => (fX10_takesSign 59 x2).bind (fun x3 => some (.inl (x3.1, x3.2)))))
def fX10_tell_J75 (mm : zM) : Option (Int32 × zM) :=
  (fX10_isRight ((wi mm 10 0 7 0))).bind (fun x7 => if x7 = 0 then (some (((((-2)) - ((gi ((wi mm 10 0 7 0)) 10 0 9))), (wi mm 10 0 7 0)))) else ((fX10_moves_39_38 0 0 ((wi mm 10 0 7 0))).bind (fun x8 => some (((gi ((wi x8 10 0 5 0)) 38 0 (zn 1356)), (wi x8 10 0 5 0))))))
def fX10_tell_J32 (s0 : Int32) (mm : zM) : Option (Int32 × zM) :=
  (zloop (fX10_tell_L33) zF (s0, mm)).bind (fun o11 => zcase o11 (fun y4 => (fX10_isRight y4).bind (fun x6 => if x6 = 0 then (fX10_tell_J75  y4) else ((fX10_next y4).bind (fun x9 => if x9.1 = (-1) then (fX10_tell_J75  x9.2) else ((fX10_fails 1 ((gi x9.2 10 0 8)) x9.2).bind (fun x10 => fX10_tell_J75  x10)))))) (fun r5 => r5.elim))
def fX10_tell (mm : zM) : Option (Int32 × zM) :=
  (fX10_next ((wi ((wi ((wi mm 10 0 8 0)) 10 0 9 ((-1)))) 39 0 (zn 1356) 0))).bind (fun x1 => if x1.1 = (-1) then (fX10_tell_J32 0 x1.2) else (fX10_tell_J32 1 x1.2))
theorem wX10_tell_L33 {E : zE} {d : Nat} (hd : 11 ≤ d) {Q : Option zV → zM → Prop} {n : Nat} {s : (Int32 × zM)} {o : zM ⊕ Empty} (h : zloop (fX10_tell_L33) n s = some o) (he : ∀ y : zM, o = .inl y → V E RX10 cX10_tell 2 (some .int) d Q 51 [some (zK 10 0), none] [] y) : V E RX10 cX10_tell 2 (some .int) d Q 33 [some (zK 10 0), some (zI s.1)] [] s.2 := by
  induction n generalizing s with
  | zero => exact (zloop_0 h).elim
  | succ n ih =>
    obtain ⟨o1, h1, hc1, he1⟩ := zloop_s h
    have kc : ∀ s' : (Int32 × zM), o1 = .inl s' → V E RX10 cX10_tell 2 (some .int) d Q 33 [some (zK 10 0), some (zI s'.1)] [] s'.2 := fun s' e => ih (hc1 s' e)
    have ke : ∀ y : zM, o1 = .inr (.inl y) → V E RX10 cX10_tell 2 (some .int) d Q 51 [some (zK 10 0), none] [] y := fun y e => he y (he1 _ e)
    clear h hc1 he1 ih
    have h := h1
    clear h1
    unfold fX10_tell_L33 at h
    refine V_iload_n 34 rfl 1 dX10_tell_33 rfl rfl ?_
    refine V_if_eq 37 51 rfl dX10_tell_34 (by decide) (fun c => ?_) (fun c => ?_)
    · have h := zpos c h
      exact V_w (zsub_s (zsub_n zsub_0)) (ke s.2 (zinj h))
    · have h := zneg c h
      refine V_aload_n 38 rfl 0 dX10_tell_37 rfl rfl ?_
      obtain ⟨x2, h1, h⟩ := zbd h
      refine V_cV 41 rfl 10 [] [] dX10_tell_38 cv_X10_191 (ctX10_readsUnit (Nat.le_refl 10) h1) (Nat.le_trans (by decide) hd) rfl rfl (Nat.le_of_ble_eq_true rfl) zokn rfl ?_
      refine V_aload_n 42 rfl 0 dX10_tell_41 rfl rfl ?_
      refine V_bipush 44 rfl (v := 59) dX10_tell_42 (by decide) ?_
      obtain ⟨x3, h1, h⟩ := zbd h
      refine V_cV 47 rfl 2 [zI 59] [] dX10_tell_44 cv_X10_108 (ctX10_takesSign (Nat.le_refl 2) h1) (Nat.le_trans (by decide) hd) rfl rfl (Nat.le_of_ble_eq_true rfl) zoki rfl ?_
      refine V_istore_n 48 rfl 1 (L' := [some (zK 10 0), some (zI x3.1)]) dX10_tell_47 rfl (by decide) rfl ?_
      refine V_goto 33 dX10_tell_48 (by decide) ?_
      exact kc (x3.1, x3.2) (zinj h)
theorem wX10_tell_J75 {E : zE} {d : Nat} (hd : 11 ≤ d) {Q : Option zV → zM → Prop} {mm : zM} {o : (Int32 × zM)} (h : fX10_tell_J75  mm = some o) (hQ : ∀ r, o = r → Q (some (zI r.1)) r.2) : V E RX10 cX10_tell 2 (some .int) d Q 75 [some (zK 10 0), none] [] mm := by
  unfold fX10_tell_J75 at h
  refine V_aload_n 76 rfl 0 dX10_tell_75 rfl rfl ?_
  refine V_iconst 77 rfl (v := 0) dX10_tell_76 (by decide) ?_
  refine V_puti 80 rfl dX10_tell_77 fw_X10_63 rfl rfl rfl ?_
  refine V_aload_n 81 rfl 0 dX10_tell_80 rfl rfl ?_
  obtain ⟨x7, h1, h⟩ := zbd h
  refine V_cV 84 rfl 0 [] [] dX10_tell_81 cv_X10_81 (ctX10_isRight (Nat.le_refl 0) h1) (Nat.le_trans (by decide) hd) rfl rfl (Nat.le_of_ble_eq_true rfl) zoki rfl ?_
  refine V_if_ne 87 95 rfl dX10_tell_84 (by decide) (fun c => ?_) (fun c => ?_)
  · have h := zneg c h
    refine V_aload_n 96 rfl 0 dX10_tell_95 rfl rfl ?_
    refine V_getr 99 rfl 39 0 dX10_tell_96 fl_X10_15 rfl rfl rfl ?_
    refine V_iconst 100 rfl (v := 0) dX10_tell_99 (by decide) ?_
    refine V_aload_n 101 rfl 0 dX10_tell_100 rfl rfl ?_
    refine V_getr 104 rfl 38 0 dX10_tell_101 fl_X10_11 rfl rfl rfl ?_
    refine V_iconst 105 rfl (v := 0) dX10_tell_104 (by decide) ?_
    obtain ⟨x8, h1, h⟩ := zbd h
    refine V_cS 108 rfl 0 [zK 39 0, zI 0, zK 38 0, zI 0] [] dX10_tell_105 cs_X10_194 (ctX10_moves_39_38 (Nat.le_refl 0) h1) (Nat.le_trans (by decide) hd) rfl rfl (Nat.le_of_ble_eq_true rfl) zokn rfl ?_
    refine V_aload_n 109 rfl 0 dX10_tell_108 rfl rfl ?_
    refine V_iconst 110 rfl (v := 0) dX10_tell_109 (by decide) ?_
    refine V_puti 113 rfl dX10_tell_110 fw_X10_198 rfl rfl rfl ?_
    refine V_aload_n 114 rfl 0 dX10_tell_113 rfl rfl ?_
    refine V_getr 117 rfl 38 0 dX10_tell_114 fl_X10_11 rfl rfl rfl ?_
    refine V_sipush 120 rfl (v := 1356) dX10_tell_117 (by decide) ?_
    refine V_iald 121 rfl dX10_tell_120 rfl (by decide) ?_
    exact V_iret dX10_tell_121 rfl (hQ (((gi ((wi x8 10 0 5 0)) 38 0 (zn 1356)), (wi x8 10 0 5 0))) (zinj h))
  · have h := zpos c h
    refine V_bipush 89 rfl (v := (-2)) dX10_tell_87 (by decide) ?_
    refine V_aload_n 90 rfl 0 dX10_tell_89 rfl rfl ?_
    refine V_geti 93 rfl dX10_tell_90 fl_X10_78 rfl ?_
    refine V_isub 94 rfl dX10_tell_93 ?_
    exact V_iret dX10_tell_94 rfl (hQ (((((-2)) - ((gi ((wi mm 10 0 7 0)) 10 0 9))), (wi mm 10 0 7 0))) (zinj h))
theorem wX10_tell_J32 {E : zE} {d : Nat} (hd : 11 ≤ d) {Q : Option zV → zM → Prop} {s0 : Int32} {mm : zM} {o : (Int32 × zM)} (h : fX10_tell_J32 s0 mm = some o) (hQ : ∀ r, o = r → Q (some (zI r.1)) r.2) : V E RX10 cX10_tell 2 (some .int) d Q 32 [some (zK 10 0), none] [zI s0] mm := by
  unfold fX10_tell_J32 at h
  refine V_istore_n 33 rfl 1 (L' := [some (zK 10 0), some (zI s0)]) dX10_tell_32 rfl (by decide) rfl ?_
  obtain ⟨o11, h1, h⟩ := zbd h
  refine wX10_tell_L33 hd h1 (fun y4 e => ?_)
  have h := zcl_ e h
  refine V_aload_n 52 rfl 0 dX10_tell_51 rfl rfl ?_
  obtain ⟨x6, h1, h⟩ := zbd h
  refine V_cV 55 rfl 0 [] [] dX10_tell_52 cv_X10_81 (ctX10_isRight (Nat.le_refl 0) h1) (Nat.le_trans (by decide) hd) rfl rfl (Nat.le_of_ble_eq_true rfl) zoki rfl ?_
  refine V_if_eq 58 75 rfl dX10_tell_55 (by decide) (fun c => ?_) (fun c => ?_)
  · have h := zpos c h
    exact wX10_tell_J75 hd h hQ
  · have h := zneg c h
    refine V_aload_n 59 rfl 0 dX10_tell_58 rfl rfl ?_
    obtain ⟨x9, h1, h⟩ := zbd h
    refine V_cV 62 rfl 1 [] [] dX10_tell_59 cv_X10_85 (ctX10_next (Nat.le_refl 1) h1) (Nat.le_trans (by decide) hd) rfl rfl (Nat.le_of_ble_eq_true rfl) zoki rfl ?_
    refine V_iconst 63 rfl (v := (-1)) dX10_tell_62 (by decide) ?_
    refine V_icmp_eq 66 75 rfl dX10_tell_63 (by decide) (fun c => ?_) (fun c => ?_)
    · have h := zpos c h
      exact wX10_tell_J75 hd h hQ
    · have h := zneg c h
      refine V_aload_n 67 rfl 0 dX10_tell_66 rfl rfl ?_
      refine V_iconst 68 rfl (v := 1) dX10_tell_67 (by decide) ?_
      refine V_aload_n 69 rfl 0 dX10_tell_68 rfl rfl ?_
      refine V_geti 72 rfl dX10_tell_69 fl_X10_71 rfl ?_
      obtain ⟨x10, h1, h⟩ := zbd h
      refine V_cV 75 rfl 1 [zI 1, zI (gi x9.2 10 0 8)] [] dX10_tell_72 cv_X10_112 (ctX10_fails (Nat.le_refl 1) h1) (Nat.le_trans (by decide) hd) rfl rfl (Nat.le_of_ble_eq_true rfl) zokn rfl ?_
      exact wX10_tell_J75 hd h hQ
theorem wX10_tell {E : zE} {d : Nat} (hd : 11 ≤ d) {Q : Option zV → zM → Prop} {mm : zM} {o : (Int32 × zM)} (h : fX10_tell mm = some o) (hQ : ∀ r, o = r → Q (some (zI r.1)) r.2) : V E RX10 cX10_tell 2 (some .int) d Q 0 [some (zK 10 0), none] [] mm := by
  unfold fX10_tell at h
  refine V_aload_n 1 rfl 0 dX10_tell_0 rfl rfl ?_
  refine V_iconst 2 rfl (v := 0) dX10_tell_1 (by decide) ?_
  refine V_puti 5 rfl dX10_tell_2 fw_X10_71 rfl rfl rfl ?_
  refine V_aload_n 6 rfl 0 dX10_tell_5 rfl rfl ?_
  refine V_iconst 7 rfl (v := (-1)) dX10_tell_6 (by decide) ?_
  refine V_puti 10 rfl dX10_tell_7 fw_X10_78 rfl rfl rfl ?_
  refine V_aload_n 11 rfl 0 dX10_tell_10 rfl rfl ?_
  refine V_getr 14 rfl 39 0 dX10_tell_11 fl_X10_15 rfl rfl rfl ?_
  refine V_sipush 17 rfl (v := 1356) dX10_tell_14 (by decide) ?_
  refine V_iconst 18 rfl (v := 0) dX10_tell_17 (by decide) ?_
  refine V_iast 19 rfl dX10_tell_18 rfl (by decide) ?_
  refine V_aload_n 20 rfl 0 dX10_tell_19 rfl rfl ?_
  obtain ⟨x1, h1, h⟩ := zbd h
  refine V_cV 23 rfl 1 [] [] dX10_tell_20 cv_X10_85 (ctX10_next (Nat.le_refl 1) h1) (Nat.le_trans (by decide) hd) rfl rfl (Nat.le_of_ble_eq_true rfl) zoki rfl ?_
  refine V_iconst 24 rfl (v := (-1)) dX10_tell_23 (by decide) ?_
  refine V_icmp_eq 27 31 rfl dX10_tell_24 (by decide) (fun c => ?_) (fun c => ?_)
  · have h := zpos c h
    refine V_iconst 32 rfl (v := 0) dX10_tell_31 (by decide) ?_
    exact wX10_tell_J32 hd h hQ
  · have h := zneg c h
    refine V_iconst 28 rfl (v := 1) dX10_tell_27 (by decide) ?_
    refine V_goto 32 dX10_tell_28 (by decide) ?_
    exact wX10_tell_J32 hd h hQ
theorem ctX10_tell {E : zE} {d : Nat} (hd : 11 ≤ d) {mm : zM} {o : (Int32 × zM)} (h : fX10_tell mm = some o) : zOC E yX10_tell cX10_tell 2 (some .int) d [zK 10 0] mm (some (zI o.1)) o.2 :=
  zCT_of (by decide) (Nat.le_of_ble_eq_true rfl) (zk_k zk_0) rfl (wX10_tell hd h (fun r e => ⟨by rw [e], by rw [e]⟩))
def fX10_isUnit (v1 : Int32) (mm : zM) : Option Int32 :=
  (fX10_in v1 0 ((((gi mm 38 0 (zn 1356))) - 1)) mm).bind (fun x1 => zob (zbo x1) (some x1))
theorem wX10_isUnit {E : zE} {d : Nat} (hd : 1 ≤ d) {Q : Option zV → zM → Prop} {v1 : Int32} {mm : zM} {o : Int32} (h : fX10_isUnit v1 mm = some o) (hQ : ∀ r, o = r → Q (some (zI r)) mm) : V E RX10 cX10_isUnit 2 (some .boolean) d Q 0 [some (zK 10 0), some (zI v1)] [] mm := by
  unfold fX10_isUnit at h
  refine V_iload_n 1 rfl 1 dX10_isUnit_0 rfl rfl ?_
  refine V_iconst 2 rfl (v := 0) dX10_isUnit_1 (by decide) ?_
  refine V_aload_n 3 rfl 0 dX10_isUnit_2 rfl rfl ?_
  refine V_getr 6 rfl 38 0 dX10_isUnit_3 fl_X10_11 rfl rfl rfl ?_
  refine V_sipush 9 rfl (v := 1356) dX10_isUnit_6 (by decide) ?_
  refine V_iald 10 rfl dX10_isUnit_9 rfl (by decide) ?_
  refine V_iconst 11 rfl (v := 1) dX10_isUnit_10 (by decide) ?_
  refine V_isub 12 rfl dX10_isUnit_11 ?_
  obtain ⟨x1, h1, h⟩ := zbd h
  refine V_cS 15 rfl 0 [zI v1, zI 0, zI (((gi mm 38 0 (zn 1356))) - 1)] [] dX10_isUnit_12 cs_X10_88 (ctX10_in (Nat.le_refl 0) h1) (Nat.le_trans (by decide) hd) rfl rfl (Nat.le_of_ble_eq_true rfl) zoki rfl ?_
  obtain ⟨hi, h⟩ := zobd h
  exact V_zret dX10_isUnit_15 rfl (zbo_n hi) (hQ x1 (zinj h))
theorem ctX10_isUnit {E : zE} {d : Nat} (hd : 1 ≤ d) {v1 : Int32} {mm : zM} {o : Int32} (h : fX10_isUnit v1 mm = some o) : zOC E yX10_isUnit cX10_isUnit 2 (some .boolean) d [zK 10 0, zI v1] mm (some (zI o)) mm :=
  zCT_of (by decide) (Nat.le_of_ble_eq_true rfl) (zk_k (zk_i zk_0)) rfl (wX10_isUnit hd h (fun r e => ⟨by rw [e], rfl⟩))
def fX10_isTrait (v1 : Int32) (mm : zM) : Option Int32 :=
  zob (zin ((((113 * v1)) + 0)) 1357) (if (gi mm 38 0 (zn ((((113 * v1)) + 0)))) = 1 then (some 1) else (some 0))
theorem wX10_isTrait {E : zE} {d : Nat} (hd : 0 ≤ d) {Q : Option zV → zM → Prop} {v1 : Int32} {mm : zM} {o : Int32} (h : fX10_isTrait v1 mm = some o) (hQ : ∀ r, o = r → Q (some (zI r)) mm) : V E RX10 cX10_isTrait 2 (some .boolean) d Q 0 [some (zK 10 0), some (zI v1)] [] mm := by
  unfold fX10_isTrait at h
  refine V_aload_n 1 rfl 0 dX10_isTrait_0 rfl rfl ?_
  refine V_getr 4 rfl 38 0 dX10_isTrait_1 fl_X10_11 rfl rfl rfl ?_
  refine V_bipush 6 rfl (v := 113) dX10_isTrait_4 (by decide) ?_
  refine V_iload_n 7 rfl 1 dX10_isTrait_6 rfl rfl ?_
  refine V_imul 8 rfl dX10_isTrait_7 ?_
  refine V_iconst 9 rfl (v := 0) dX10_isTrait_8 (by decide) ?_
  refine V_iadd 10 rfl dX10_isTrait_9 ?_
  obtain ⟨hi, h⟩ := zobd h
  refine V_iald 11 rfl dX10_isTrait_10 rfl hi ?_
  refine V_iconst 12 rfl (v := 1) dX10_isTrait_11 (by decide) ?_
  refine V_icmp_ne 15 19 rfl dX10_isTrait_12 (by decide) (fun c => ?_) (fun c => ?_)
  · have h := zneg c h
    refine V_iconst 20 rfl (v := 0) dX10_isTrait_19 (by decide) ?_
    exact V_zret dX10_isTrait_20 rfl rfl (hQ 0 (zinj h))
  · have h := zpos c h
    refine V_iconst 16 rfl (v := 1) dX10_isTrait_15 (by decide) ?_
    refine V_goto 20 dX10_isTrait_16 (by decide) ?_
    exact V_zret dX10_isTrait_20 rfl rfl (hQ 1 (zinj h))
theorem ctX10_isTrait {E : zE} {d : Nat} (hd : 0 ≤ d) {v1 : Int32} {mm : zM} {o : Int32} (h : fX10_isTrait v1 mm = some o) : zOC E yX10_isTrait cX10_isTrait 2 (some .boolean) d [zK 10 0, zI v1] mm (some (zI o)) mm :=
  zCT_of (by decide) (Nat.le_of_ble_eq_true rfl) (zk_k (zk_i zk_0)) rfl (wX10_isTrait hd h (fun r e => ⟨by rw [e], rfl⟩))
def fX10_isType (v1 : Int32) (mm : zM) : Option Int32 :=
  (fX10_isUnit v1 mm).bind (fun x1 => if x1 = 0 then (some 0) else ((fX10_isTrait v1 mm).bind (fun x2 => if x2 = 0 then (some 1) else (some 0))))
theorem wX10_isType {E : zE} {d : Nat} (hd : 2 ≤ d) {Q : Option zV → zM → Prop} {v1 : Int32} {mm : zM} {o : Int32} (h : fX10_isType v1 mm = some o) (hQ : ∀ r, o = r → Q (some (zI r)) mm) : V E RX10 cX10_isType 2 (some .boolean) d Q 0 [some (zK 10 0), some (zI v1)] [] mm := by
  unfold fX10_isType at h
  refine V_aload_n 1 rfl 0 dX10_isType_0 rfl rfl ?_
  refine V_iload_n 2 rfl 1 dX10_isType_1 rfl rfl ?_
  obtain ⟨x1, h1, h⟩ := zbd h
  refine V_cV 5 rfl 1 [zI v1] [] dX10_isType_2 cv_X10_201 (ctX10_isUnit (Nat.le_refl 1) h1) (Nat.le_trans (by decide) hd) rfl rfl (Nat.le_of_ble_eq_true rfl) zoki rfl ?_
  refine V_if_eq 8 20 rfl dX10_isType_5 (by decide) (fun c => ?_) (fun c => ?_)
  · have h := zpos c h
    refine V_iconst 21 rfl (v := 0) dX10_isType_20 (by decide) ?_
    exact V_zret dX10_isType_21 rfl rfl (hQ 0 (zinj h))
  · have h := zneg c h
    refine V_aload_n 9 rfl 0 dX10_isType_8 rfl rfl ?_
    refine V_iload_n 10 rfl 1 dX10_isType_9 rfl rfl ?_
    obtain ⟨x2, h1, h⟩ := zbd h
    refine V_cV 13 rfl 0 [zI v1] [] dX10_isType_10 cv_X10_204 (ctX10_isTrait (Nat.le_refl 0) h1) (Nat.le_trans (by decide) hd) rfl rfl (Nat.le_of_ble_eq_true rfl) zoki rfl ?_
    refine V_if_ne 16 20 rfl dX10_isType_13 (by decide) (fun c => ?_) (fun c => ?_)
    · have h := zneg c h
      refine V_iconst 21 rfl (v := 0) dX10_isType_20 (by decide) ?_
      exact V_zret dX10_isType_21 rfl rfl (hQ 0 (zinj h))
    · have h := zpos c h
      refine V_iconst 17 rfl (v := 1) dX10_isType_16 (by decide) ?_
      refine V_goto 21 dX10_isType_17 (by decide) ?_
      exact V_zret dX10_isType_21 rfl rfl (hQ 1 (zinj h))
theorem ctX10_isType {E : zE} {d : Nat} (hd : 2 ≤ d) {v1 : Int32} {mm : zM} {o : Int32} (h : fX10_isType v1 mm = some o) : zOC E yX10_isType cX10_isType 2 (some .boolean) d [zK 10 0, zI v1] mm (some (zI o)) mm :=
  zCT_of (by decide) (Nat.le_of_ble_eq_true rfl) (zk_k (zk_i zk_0)) rfl (wX10_isType hd h (fun r e => ⟨by rw [e], rfl⟩))
def fX10_parents (v1 : Int32) (mm : zM) : Option Int32 :=
  zob (zin ((((113 * v1)) + 2)) 1357) (some ((gi mm 38 0 (zn ((((113 * v1)) + 2))))))
theorem wX10_parents {E : zE} {d : Nat} (hd : 0 ≤ d) {Q : Option zV → zM → Prop} {v1 : Int32} {mm : zM} {o : Int32} (h : fX10_parents v1 mm = some o) (hQ : ∀ r, o = r → Q (some (zI r)) mm) : V E RX10 cX10_parents 2 (some .int) d Q 0 [some (zK 10 0), some (zI v1)] [] mm := by
  unfold fX10_parents at h
  refine V_aload_n 1 rfl 0 dX10_parents_0 rfl rfl ?_
  refine V_getr 4 rfl 38 0 dX10_parents_1 fl_X10_11 rfl rfl rfl ?_
  refine V_bipush 6 rfl (v := 113) dX10_parents_4 (by decide) ?_
  refine V_iload_n 7 rfl 1 dX10_parents_6 rfl rfl ?_
  refine V_imul 8 rfl dX10_parents_7 ?_
  refine V_iconst 9 rfl (v := 2) dX10_parents_8 (by decide) ?_
  refine V_iadd 10 rfl dX10_parents_9 ?_
  obtain ⟨hi, h⟩ := zobd h
  refine V_iald 11 rfl dX10_parents_10 rfl hi ?_
  exact V_iret dX10_parents_11 rfl (hQ ((gi mm 38 0 (zn ((((113 * v1)) + 2))))) (zinj h))
theorem ctX10_parents {E : zE} {d : Nat} (hd : 0 ≤ d) {v1 : Int32} {mm : zM} {o : Int32} (h : fX10_parents v1 mm = some o) : zOC E yX10_parents cX10_parents 2 (some .int) d [zK 10 0, zI v1] mm (some (zI o)) mm :=
  zCT_of (by decide) (Nat.le_of_ble_eq_true rfl) (zk_k (zk_i zk_0)) rfl (wX10_parents hd h (fun r e => ⟨by rw [e], rfl⟩))
def fX10_parentOf (v1 : Int32) (v2 : Int32) (mm : zM) : Option Int32 :=
  zob (zin ((((((((113 * v1)) + 2)) + 1)) + v2)) 1357) (some ((gi mm 38 0 (zn ((((((((113 * v1)) + 2)) + 1)) + v2))))))
theorem wX10_parentOf {E : zE} {d : Nat} (hd : 0 ≤ d) {Q : Option zV → zM → Prop} {v1 : Int32} {v2 : Int32} {mm : zM} {o : Int32} (h : fX10_parentOf v1 v2 mm = some o) (hQ : ∀ r, o = r → Q (some (zI r)) mm) : V E RX10 cX10_parentOf 3 (some .int) d Q 0 [some (zK 10 0), some (zI v1), some (zI v2)] [] mm := by
  unfold fX10_parentOf at h
  refine V_aload_n 1 rfl 0 dX10_parentOf_0 rfl rfl ?_
  refine V_getr 4 rfl 38 0 dX10_parentOf_1 fl_X10_11 rfl rfl rfl ?_
  refine V_bipush 6 rfl (v := 113) dX10_parentOf_4 (by decide) ?_
  refine V_iload_n 7 rfl 1 dX10_parentOf_6 rfl rfl ?_
  refine V_imul 8 rfl dX10_parentOf_7 ?_
  refine V_iconst 9 rfl (v := 2) dX10_parentOf_8 (by decide) ?_
  refine V_iadd 10 rfl dX10_parentOf_9 ?_
  refine V_iconst 11 rfl (v := 1) dX10_parentOf_10 (by decide) ?_
  refine V_iadd 12 rfl dX10_parentOf_11 ?_
  refine V_iload_n 13 rfl 2 dX10_parentOf_12 rfl rfl ?_
  refine V_iadd 14 rfl dX10_parentOf_13 ?_
  obtain ⟨hi, h⟩ := zobd h
  refine V_iald 15 rfl dX10_parentOf_14 rfl hi ?_
  exact V_iret dX10_parentOf_15 rfl (hQ ((gi mm 38 0 (zn ((((((((113 * v1)) + 2)) + 1)) + v2))))) (zinj h))
theorem ctX10_parentOf {E : zE} {d : Nat} (hd : 0 ≤ d) {v1 : Int32} {v2 : Int32} {mm : zM} {o : Int32} (h : fX10_parentOf v1 v2 mm = some o) : zOC E yX10_parentOf cX10_parentOf 3 (some .int) d [zK 10 0, zI v1, zI v2] mm (some (zI o)) mm :=
  zCT_of (by decide) (Nat.le_of_ble_eq_true rfl) (zk_k (zk_i (zk_i zk_0))) rfl (wX10_parentOf hd h (fun r e => ⟨by rw [e], rfl⟩))
def fX10_placeOf_L2 (v1 : Int32) (v2 : Int32) (mm : zM) (s : Int32) : Option (Int32 ⊕ (Unit ⊕ Int32)) :=
  (fX10_parents v1 mm).bind (fun x1 => if x1 ≤ s then (some (.inr (.inl ()))) else ((fX10_parentOf v1 s mm).bind (fun x2 => if x2 = v2 then (some (.inr (.inr s))) else (some (.inl (s + 1))))))
def fX10_placeOf (v1 : Int32) (v2 : Int32) (mm : zM) : Option Int32 :=
  (zloop (fX10_placeOf_L2 v1 v2 mm) zF 0).bind (fun o5 => zcase o5 (fun y3 => some ((-1))) (fun r4 => some r4))
theorem wX10_placeOf_L2 {E : zE} {d : Nat} (hd : 1 ≤ d) {Q : Option zV → zM → Prop} {v1 : Int32} {v2 : Int32} {mm : zM} {n : Nat} {s : Int32} {o : Unit ⊕ Int32} (h : zloop (fX10_placeOf_L2 v1 v2 mm) n s = some o) (he : ∀ y : Unit, o = .inl y → V E RX10 cX10_placeOf 4 (some .int) d Q 29 [none, none, none, none] [] mm) (hr : ∀ r : Int32, o = .inr r → Q (some (zI r)) mm) : V E RX10 cX10_placeOf 4 (some .int) d Q 2 [some (zK 10 0), some (zI v1), some (zI v2), some (zI s)] [] mm := by
  induction n generalizing s with
  | zero => exact (zloop_0 h).elim
  | succ n ih =>
    obtain ⟨o1, h1, hc1, he1⟩ := zloop_s h
    have kc : ∀ s' : Int32, o1 = .inl s' → V E RX10 cX10_placeOf 4 (some .int) d Q 2 [some (zK 10 0), some (zI v1), some (zI v2), some (zI s')] [] mm := fun s' e => ih (hc1 s' e)
    have ke : ∀ y : Unit, o1 = .inr (.inl y) → V E RX10 cX10_placeOf 4 (some .int) d Q 29 [none, none, none, none] [] mm := fun y e => he y (he1 _ e)
    have kr : ∀ r : Int32, o1 = .inr (.inr r) → Q (some (zI r)) mm := fun r e => hr r (he1 _ e)
    clear h hc1 he1 ih
    have h := h1
    clear h1
    unfold fX10_placeOf_L2 at h
    refine V_iload_n 3 rfl 3 dX10_placeOf_2 rfl rfl ?_
    refine V_aload_n 4 rfl 0 dX10_placeOf_3 rfl rfl ?_
    refine V_iload_n 5 rfl 1 dX10_placeOf_4 rfl rfl ?_
    obtain ⟨x1, h1, h⟩ := zbd h
    refine V_cV 8 rfl 0 [zI v1] [zI s] dX10_placeOf_5 cv_X10_237 (ctX10_parents (Nat.le_refl 0) h1) (Nat.le_trans (by decide) hd) rfl rfl (Nat.le_of_ble_eq_true rfl) zoki rfl ?_
    refine V_icmp_ge 11 29 rfl dX10_placeOf_8 (by decide) (fun c => ?_) (fun c => ?_)
    · have h := zpos c h
      exact V_w (zsub_n (zsub_n (zsub_n (zsub_n zsub_0)))) (ke () (zinj h))
    · have h := zneg c h
      refine V_aload_n 12 rfl 0 dX10_placeOf_11 rfl rfl ?_
      refine V_iload_n 13 rfl 1 dX10_placeOf_12 rfl rfl ?_
      refine V_iload_n 14 rfl 3 dX10_placeOf_13 rfl rfl ?_
      obtain ⟨x2, h1, h⟩ := zbd h
      refine V_cV 17 rfl 0 [zI v1, zI s] [] dX10_placeOf_14 cv_X10_240 (ctX10_parentOf (Nat.le_refl 0) h1) (Nat.le_trans (by decide) hd) rfl rfl (Nat.le_of_ble_eq_true rfl) zoki rfl ?_
      refine V_iload_n 18 rfl 2 dX10_placeOf_17 rfl rfl ?_
      refine V_icmp_ne 21 23 rfl dX10_placeOf_18 (by decide) (fun c => ?_) (fun c => ?_)
      · have h := zneg c h
        refine V_iinc 26 rfl (s + 1) (L' := [some (zK 10 0), some (zI v1), some (zI v2), some (zI (s + 1))]) dX10_placeOf_23 rfl rfl (by decide) rfl ?_
        refine V_goto 2 dX10_placeOf_26 (by decide) ?_
        exact kc (s + 1) (zinj h)
      · have h := zpos c h
        refine V_iload_n 22 rfl 3 dX10_placeOf_21 rfl rfl ?_
        exact V_iret dX10_placeOf_22 rfl (kr s (zinj h))
theorem wX10_placeOf {E : zE} {d : Nat} (hd : 1 ≤ d) {Q : Option zV → zM → Prop} {v1 : Int32} {v2 : Int32} {mm : zM} {o : Int32} (h : fX10_placeOf v1 v2 mm = some o) (hQ : ∀ r, o = r → Q (some (zI r)) mm) : V E RX10 cX10_placeOf 4 (some .int) d Q 0 [some (zK 10 0), some (zI v1), some (zI v2), none] [] mm := by
  unfold fX10_placeOf at h
  refine V_iconst 1 rfl (v := 0) dX10_placeOf_0 (by decide) ?_
  refine V_istore_n 2 rfl 3 (L' := [some (zK 10 0), some (zI v1), some (zI v2), some (zI 0)]) dX10_placeOf_1 rfl (by decide) rfl ?_
  obtain ⟨o5, h1, h⟩ := zbd h
  refine wX10_placeOf_L2 hd h1 (fun y3 e => ?_) (fun r e => by have h := zcr_ e h; exact hQ r (zinj h))
  have h := zcl_ e h
  refine V_iconst 30 rfl (v := (-1)) dX10_placeOf_29 (by decide) ?_
  exact V_iret dX10_placeOf_30 rfl (hQ ((-1)) (zinj h))
theorem ctX10_placeOf {E : zE} {d : Nat} (hd : 1 ≤ d) {v1 : Int32} {v2 : Int32} {mm : zM} {o : Int32} (h : fX10_placeOf v1 v2 mm = some o) : zOC E yX10_placeOf cX10_placeOf 4 (some .int) d [zK 10 0, zI v1, zI v2] mm (some (zI o)) mm :=
  zCT_of (by decide) (Nat.le_of_ble_eq_true rfl) (zk_k (zk_i (zk_i zk_0))) rfl (wX10_placeOf hd h (fun r e => ⟨by rw [e], rfl⟩))
def fX10_moves_38_40_L3 (v1 : Int32) (v3 : Int32) (s : (Int32 × zM)) : Option ((Int32 × zM) ⊕ (zM ⊕ Empty)) :=
  if 1357 ≤ s.1 then (some (.inr (.inl s.2))) else (zob (zin ((v1 + s.1)) 1357) (zob (zin ((v3 + s.1)) 13570) (some (.inl ((s.1 + 1), (wi s.2 40 0 (zn ((v3 + s.1))) ((gi s.2 38 0 (zn ((v1 + s.1)))))))))))
def fX10_moves_38_40 (v1 : Int32) (v3 : Int32) (mm : zM) : Option zM :=
  (zloop (fX10_moves_38_40_L3 v1 v3) zF (0, mm)).bind (fun o3 => zcase o3 (fun y1 => some y1) (fun r2 => r2.elim))
theorem wX10_moves_38_40_L3 {E : zE} {d : Nat} (hd : 0 ≤ d) {Q : Option zV → zM → Prop} {v1 : Int32} {v3 : Int32} {n : Nat} {s : (Int32 × zM)} {o : zM ⊕ Empty} (h : zloop (fX10_moves_38_40_L3 v1 v3) n s = some o) (he : ∀ y : zM, o = .inl y → V E RX10 cX10_moves 5 none d Q 29 [none, none, none, none, none] [] y) : V E RX10 cX10_moves 5 none d Q 3 [some (zK 38 0), some (zI v1), some (zK 40 0), some (zI v3), some (zI s.1)] [] s.2 := by
  induction n generalizing s with
  | zero => exact (zloop_0 h).elim
  | succ n ih =>
    obtain ⟨o1, h1, hc1, he1⟩ := zloop_s h
    have kc : ∀ s' : (Int32 × zM), o1 = .inl s' → V E RX10 cX10_moves 5 none d Q 3 [some (zK 38 0), some (zI v1), some (zK 40 0), some (zI v3), some (zI s'.1)] [] s'.2 := fun s' e => ih (hc1 s' e)
    have ke : ∀ y : zM, o1 = .inr (.inl y) → V E RX10 cX10_moves 5 none d Q 29 [none, none, none, none, none] [] y := fun y e => he y (he1 _ e)
    clear h hc1 he1 ih
    have h := h1
    clear h1
    unfold fX10_moves_38_40_L3 at h
    refine V_iload 5 rfl dX10_moves_3 rfl ?_
    refine V_sipush 8 rfl (v := 1357) dX10_moves_5 (by decide) ?_
    refine V_icmp_ge 11 29 rfl dX10_moves_8 (by decide) (fun c => ?_) (fun c => ?_)
    · have h := zpos c h
      exact V_w (zsub_n (zsub_n (zsub_n (zsub_n (zsub_n zsub_0))))) (ke s.2 (zinj h))
    · have h := zneg c h
      refine V_aload_n 12 rfl 2 dX10_moves_11 rfl rfl ?_
      refine V_iload_n 13 rfl 3 dX10_moves_12 rfl rfl ?_
      refine V_iload 15 rfl dX10_moves_13 rfl ?_
      refine V_iadd 16 rfl dX10_moves_15 ?_
      refine V_aload_n 17 rfl 0 dX10_moves_16 rfl rfl ?_
      refine V_iload_n 18 rfl 1 dX10_moves_17 rfl rfl ?_
      refine V_iload 20 rfl dX10_moves_18 rfl ?_
      refine V_iadd 21 rfl dX10_moves_20 ?_
      obtain ⟨hi, h⟩ := zobd h
      refine V_iald 22 rfl dX10_moves_21 rfl hi ?_
      obtain ⟨hi, h⟩ := zobd h
      refine V_iast 23 rfl dX10_moves_22 rfl hi ?_
      refine V_iinc 26 rfl (s.1 + 1) (L' := [some (zK 38 0), some (zI v1), some (zK 40 0), some (zI v3), some (zI (s.1 + 1))]) dX10_moves_23 rfl rfl (by decide) rfl ?_
      refine V_goto 3 dX10_moves_26 (by decide) ?_
      exact kc ((s.1 + 1), (wi s.2 40 0 (zn ((v3 + s.1))) ((gi s.2 38 0 (zn ((v1 + s.1))))))) (zinj h)
theorem wX10_moves_38_40 {E : zE} {d : Nat} (hd : 0 ≤ d) {Q : Option zV → zM → Prop} {v1 : Int32} {v3 : Int32} {mm : zM} {o : zM} (h : fX10_moves_38_40 v1 v3 mm = some o) (hQ : ∀ r, o = r → Q none r) : V E RX10 cX10_moves 5 none d Q 0 [some (zK 38 0), some (zI v1), some (zK 40 0), some (zI v3), none] [] mm := by
  unfold fX10_moves_38_40 at h
  refine V_iconst 1 rfl (v := 0) dX10_moves_0 (by decide) ?_
  refine V_istore 3 rfl (L' := [some (zK 38 0), some (zI v1), some (zK 40 0), some (zI v3), some (zI 0)]) dX10_moves_1 (by decide) rfl ?_
  obtain ⟨o3, h1, h⟩ := zbd h
  refine wX10_moves_38_40_L3 hd h1 (fun y1 e => ?_)
  have h := zcl_ e h
  exact V_vret dX10_moves_29 rfl (hQ y1 (zinj h))
theorem ctX10_moves_38_40 {E : zE} {d : Nat} (hd : 0 ≤ d) {v1 : Int32} {v3 : Int32} {mm : zM} {o : zM} (h : fX10_moves_38_40 v1 v3 mm = some o) : zOC E yX10_moves cX10_moves 5 none d [zK 38 0, zI v1, zK 40 0, zI v3] mm none o :=
  zCT_of (by decide) (Nat.le_of_ble_eq_true rfl) (zk_k (zk_i (zk_k (zk_i zk_0)))) rfl (wX10_moves_38_40 hd h (fun r e => ⟨rfl, by rw [e]⟩))
def fX10_keepsPast_J52 (mm : zM) : Option zM :=
  (fX10_moves_38_40 0 ((1357 * ((gi mm 10 0 5)))) mm).bind (fun x1 => some ((wi x1 10 0 5 ((((gi x1 10 0 5)) + 1)))))
def fX10_keepsPast_L13 (s : (Int32 × zM)) : Option ((Int32 × zM) ⊕ (zM ⊕ Empty)) :=
  if 13570 ≤ s.1 then (some (.inr (.inl s.2))) else (zob (zin s.1 13570) (zob (zin ((s.1 - 1357)) 13570) (some (.inl ((s.1 + 1), (wi s.2 40 0 (zn ((s.1 - 1357))) ((gi s.2 40 0 (zn s.1)))))))))
def fX10_keepsPast (mm : zM) : Option zM :=
  if (gi mm 10 0 5) = 10 then ((zloop (fX10_keepsPast_L13) zF (1357, mm)).bind (fun o4 => zcase o4 (fun y2 => fX10_keepsPast_J52  ((wi y2 10 0 5 ((((gi y2 10 0 5)) - 1))))) (fun r3 => r3.elim))) else (fX10_keepsPast_J52  mm)
theorem wX10_keepsPast_J52 {E : zE} {d : Nat} (hd : 1 ≤ d) {Q : Option zV → zM → Prop} {mm : zM} {o : zM} (h : fX10_keepsPast_J52  mm = some o) (hQ : ∀ r, o = r → Q none r) : V E RX10 cX10_keepsPast 2 none d Q 52 [some (zK 10 0), none] [] mm := by
  unfold fX10_keepsPast_J52 at h
  refine V_aload_n 53 rfl 0 dX10_keepsPast_52 rfl rfl ?_
  refine V_getr 56 rfl 38 0 dX10_keepsPast_53 fl_X10_11 rfl rfl rfl ?_
  refine V_iconst 57 rfl (v := 0) dX10_keepsPast_56 (by decide) ?_
  refine V_aload_n 58 rfl 0 dX10_keepsPast_57 rfl rfl ?_
  refine V_getr 61 rfl 40 0 dX10_keepsPast_58 fl_X10_18 rfl rfl rfl ?_
  refine V_sipush 64 rfl (v := 1357) dX10_keepsPast_61 (by decide) ?_
  refine V_aload_n 65 rfl 0 dX10_keepsPast_64 rfl rfl ?_
  refine V_geti 68 rfl dX10_keepsPast_65 fl_X10_198 rfl ?_
  refine V_imul 69 rfl dX10_keepsPast_68 ?_
  obtain ⟨x1, h1, h⟩ := zbd h
  refine V_cS 72 rfl 0 [zK 38 0, zI 0, zK 40 0, zI (1357 * ((gi mm 10 0 5)))] [] dX10_keepsPast_69 cs_X10_194 (ctX10_moves_38_40 (Nat.le_refl 0) h1) (Nat.le_trans (by decide) hd) rfl rfl (Nat.le_of_ble_eq_true rfl) zokn rfl ?_
  refine V_aload_n 73 rfl 0 dX10_keepsPast_72 rfl rfl ?_
  refine V_dup 74 rfl dX10_keepsPast_73 rfl ?_
  refine V_geti 77 rfl dX10_keepsPast_74 fl_X10_198 rfl ?_
  refine V_iconst 78 rfl (v := 1) dX10_keepsPast_77 (by decide) ?_
  refine V_iadd 79 rfl dX10_keepsPast_78 ?_
  refine V_puti 82 rfl dX10_keepsPast_79 fw_X10_198 rfl rfl rfl ?_
  exact V_vret dX10_keepsPast_82 rfl (hQ ((wi x1 10 0 5 ((((gi x1 10 0 5)) + 1)))) (zinj h))
theorem wX10_keepsPast_L13 {E : zE} {d : Nat} (hd : 1 ≤ d) {Q : Option zV → zM → Prop} {n : Nat} {s : (Int32 × zM)} {o : zM ⊕ Empty} (h : zloop (fX10_keepsPast_L13) n s = some o) (he : ∀ y : zM, o = .inl y → V E RX10 cX10_keepsPast 2 none d Q 42 [some (zK 10 0), none] [] y) : V E RX10 cX10_keepsPast 2 none d Q 13 [some (zK 10 0), some (zI s.1)] [] s.2 := by
  induction n generalizing s with
  | zero => exact (zloop_0 h).elim
  | succ n ih =>
    obtain ⟨o1, h1, hc1, he1⟩ := zloop_s h
    have kc : ∀ s' : (Int32 × zM), o1 = .inl s' → V E RX10 cX10_keepsPast 2 none d Q 13 [some (zK 10 0), some (zI s'.1)] [] s'.2 := fun s' e => ih (hc1 s' e)
    have ke : ∀ y : zM, o1 = .inr (.inl y) → V E RX10 cX10_keepsPast 2 none d Q 42 [some (zK 10 0), none] [] y := fun y e => he y (he1 _ e)
    clear h hc1 he1 ih
    have h := h1
    clear h1
    unfold fX10_keepsPast_L13 at h
    refine V_iload_n 14 rfl 1 dX10_keepsPast_13 rfl rfl ?_
    refine V_sipush 17 rfl (v := 13570) dX10_keepsPast_14 (by decide) ?_
    refine V_icmp_ge 20 42 rfl dX10_keepsPast_17 (by decide) (fun c => ?_) (fun c => ?_)
    · have h := zpos c h
      exact V_w (zsub_s (zsub_n zsub_0)) (ke s.2 (zinj h))
    · have h := zneg c h
      refine V_aload_n 21 rfl 0 dX10_keepsPast_20 rfl rfl ?_
      refine V_getr 24 rfl 40 0 dX10_keepsPast_21 fl_X10_18 rfl rfl rfl ?_
      refine V_iload_n 25 rfl 1 dX10_keepsPast_24 rfl rfl ?_
      refine V_sipush 28 rfl (v := 1357) dX10_keepsPast_25 (by decide) ?_
      refine V_isub 29 rfl dX10_keepsPast_28 ?_
      refine V_aload_n 30 rfl 0 dX10_keepsPast_29 rfl rfl ?_
      refine V_getr 33 rfl 40 0 dX10_keepsPast_30 fl_X10_18 rfl rfl rfl ?_
      refine V_iload_n 34 rfl 1 dX10_keepsPast_33 rfl rfl ?_
      obtain ⟨hi, h⟩ := zobd h
      refine V_iald 35 rfl dX10_keepsPast_34 rfl hi ?_
      obtain ⟨hi, h⟩ := zobd h
      refine V_iast 36 rfl dX10_keepsPast_35 rfl hi ?_
      refine V_iinc 39 rfl (s.1 + 1) (L' := [some (zK 10 0), some (zI (s.1 + 1))]) dX10_keepsPast_36 rfl rfl (by decide) rfl ?_
      refine V_goto 13 dX10_keepsPast_39 (by decide) ?_
      exact kc ((s.1 + 1), (wi s.2 40 0 (zn ((s.1 - 1357))) ((gi s.2 40 0 (zn s.1))))) (zinj h)
theorem wX10_keepsPast {E : zE} {d : Nat} (hd : 1 ≤ d) {Q : Option zV → zM → Prop} {mm : zM} {o : zM} (h : fX10_keepsPast mm = some o) (hQ : ∀ r, o = r → Q none r) : V E RX10 cX10_keepsPast 2 none d Q 0 [some (zK 10 0), none] [] mm := by
  unfold fX10_keepsPast at h
  refine V_aload_n 1 rfl 0 dX10_keepsPast_0 rfl rfl ?_
  refine V_geti 4 rfl dX10_keepsPast_1 fl_X10_198 rfl ?_
  refine V_bipush 6 rfl (v := 10) dX10_keepsPast_4 (by decide) ?_
  refine V_icmp_ne 9 52 rfl dX10_keepsPast_6 (by decide) (fun c => ?_) (fun c => ?_)
  · have h := zneg c h
    exact wX10_keepsPast_J52 hd h hQ
  · have h := zpos c h
    refine V_sipush 12 rfl (v := 1357) dX10_keepsPast_9 (by decide) ?_
    refine V_istore_n 13 rfl 1 (L' := [some (zK 10 0), some (zI 1357)]) dX10_keepsPast_12 rfl (by decide) rfl ?_
    obtain ⟨o4, h1, h⟩ := zbd h
    refine wX10_keepsPast_L13 hd h1 (fun y2 e => ?_)
    have h := zcl_ e h
    refine V_aload_n 43 rfl 0 dX10_keepsPast_42 rfl rfl ?_
    refine V_dup 44 rfl dX10_keepsPast_43 rfl ?_
    refine V_geti 47 rfl dX10_keepsPast_44 fl_X10_198 rfl ?_
    refine V_iconst 48 rfl (v := 1) dX10_keepsPast_47 (by decide) ?_
    refine V_isub 49 rfl dX10_keepsPast_48 ?_
    refine V_puti 52 rfl dX10_keepsPast_49 fw_X10_198 rfl rfl rfl ?_
    exact wX10_keepsPast_J52 hd h hQ
theorem ctX10_keepsPast {E : zE} {d : Nat} (hd : 1 ≤ d) {mm : zM} {o : zM} (h : fX10_keepsPast mm = some o) : zOC E yX10_keepsPast cX10_keepsPast 2 none d [zK 10 0] mm none o :=
  zCT_of (by decide) (Nat.le_of_ble_eq_true rfl) (zk_k zk_0) rfl (wX10_keepsPast hd h (fun r e => ⟨rfl, by rw [e]⟩))
