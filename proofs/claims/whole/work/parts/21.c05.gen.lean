def fX9_orders (v1 : Int32) (mm : zM) : Option (Int64 × zM) :=
  (gr mm 9 2).bind (fun j1 => (fX8_isType j1 v1 mm).bind (fun x2 => if x2 = 0 then (some (((-1), mm))) else ((fX9_settle mm).bind (fun x3 => (gr x3 9 2).bind (fun j4 => zob (zin v1 12) ((fX3_prepare j4 ((gi x3 22 0 (zn v1))) x3).bind (fun x5 => (fX3_howMany x5).bind (fun x6 => some ((x6.1, x6.2))))))))))
theorem wX9_orders {E : zE} {d : Nat} (hd : 5 ≤ d) {Q : Option zV → zM → Prop} {v1 : Int32} {mm : zM} {o : (Int64 × zM)} (h : fX9_orders v1 mm = some o) (hQ : ∀ r, o = r → Q (some (zJ r.1)) r.2) : V E RX9 cX9_orders 2 (some .long) d Q 0 [some (zK 9 0), some (zI v1)] [] mm := by
  unfold fX9_orders at h
  refine V_aload_n 1 rfl 0 dX9_orders_0 rfl rfl ?_
  obtain ⟨j1, hj, h⟩ := zbd h
  refine V_getm 4 rfl 8 dX9_orders_1 fl_X9_16 rfl rfl hj ?_
  refine V_iload_n 5 rfl 1 dX9_orders_4 rfl rfl ?_
  obtain ⟨x2, h1, h⟩ := zbd h
  refine V_cV 8 rfl 1 [zI v1] [] dX9_orders_5 cv_X9_94 (ctX8_isType (Nat.le_refl 1) h1) (Nat.le_trans (by decide) hd) rfl rfl (Nat.le_of_ble_eq_true rfl) zoki rfl ?_
  refine V_if_ne 11 15 rfl dX9_orders_8 (by decide) (fun c => ?_) (fun c => ?_)
  · have h := zneg c h
    refine V_aload_n 16 rfl 0 dX9_orders_15 rfl rfl ?_
    obtain ⟨x3, h1, h⟩ := zbd h
    refine V_cV 19 rfl 4 [] [] dX9_orders_16 cv_X9_201 (ctX9_settle (Nat.le_refl 4) h1) (Nat.le_trans (by decide) hd) rfl rfl (Nat.le_of_ble_eq_true rfl) zokn rfl ?_
    refine V_aload_n 20 rfl 0 dX9_orders_19 rfl rfl ?_
    refine V_getr 23 rfl 3 0 dX9_orders_20 fl_X9_58 rfl rfl rfl ?_
    refine V_aload_n 24 rfl 0 dX9_orders_23 rfl rfl ?_
    obtain ⟨j4, hj, h⟩ := zbd h
    refine V_getm 27 rfl 8 dX9_orders_24 fl_X9_16 rfl rfl hj ?_
    refine V_aload_n 28 rfl 0 dX9_orders_27 rfl rfl ?_
    refine V_getr 31 rfl 2 0 dX9_orders_28 fl_X9_51 rfl rfl rfl ?_
    refine V_getr 34 rfl 22 0 dX9_orders_31 fl_X9_251 rfl rfl rfl ?_
    refine V_iload_n 35 rfl 1 dX9_orders_34 rfl rfl ?_
    obtain ⟨hi, h⟩ := zobd h
    refine V_iald 36 rfl dX9_orders_35 rfl hi ?_
    obtain ⟨x5, h1, h⟩ := zbd h
    refine V_cV 39 rfl 2 [zK 8 j4, zI (gi x3 22 0 (zn v1))] [] dX9_orders_36 cv_X9_256 (ctX3_prepare (Nat.le_refl 2) h1) (Nat.le_trans (by decide) hd) rfl rfl (Nat.le_of_ble_eq_true rfl) zokn rfl ?_
    refine V_aload_n 40 rfl 0 dX9_orders_39 rfl rfl ?_
    refine V_getr 43 rfl 3 0 dX9_orders_40 fl_X9_58 rfl rfl rfl ?_
    obtain ⟨x6, h1, h⟩ := zbd h
    refine V_cV 46 rfl 3 [] [] dX9_orders_43 cv_X9_260 (ctX3_howMany (Nat.le_refl 3) h1) (Nat.le_trans (by decide) hd) rfl rfl (Nat.le_of_ble_eq_true rfl) zokj rfl ?_
    exact V_lret dX9_orders_46 rfl (hQ ((x6.1, x6.2)) (zinj h))
  · have h := zpos c h
    refine V_ldc2 14 rfl (v := (-1)) dX9_orders_11 tb_929 ?_
    exact V_lret dX9_orders_14 rfl (hQ (((-1), mm)) (zinj h))
theorem ctX9_orders {E : zE} {d : Nat} (hd : 5 ≤ d) {v1 : Int32} {mm : zM} {o : (Int64 × zM)} (h : fX9_orders v1 mm = some o) : zOC E yX9_orders cX9_orders 2 (some .long) d [zK 9 0, zI v1] mm (some (zJ o.1)) o.2 :=
  zCT_of (by decide) (Nat.le_of_ble_eq_true rfl) (zk_k (zk_i zk_0)) rfl (wX9_orders hd h (fun r e => ⟨by rw [e], by rw [e]⟩))
def fJ6_bitCount (v0 : Int32) (mm : zM) : Option Int32 :=
  some ((((((((((((((((v0 - ((((v0.toUInt32 >>> ((1 : Int32).toUInt32 &&& Int32.toUInt32 31)).toInt32) &&& 1431655765)))) &&& 858993459)) + ((((((v0 - ((((v0.toUInt32 >>> ((1 : Int32).toUInt32 &&& Int32.toUInt32 31)).toInt32) &&& 1431655765)))).toUInt32 >>> ((2 : Int32).toUInt32 &&& Int32.toUInt32 31)).toInt32) &&& 858993459)))) + ((((((((v0 - ((((v0.toUInt32 >>> ((1 : Int32).toUInt32 &&& Int32.toUInt32 31)).toInt32) &&& 1431655765)))) &&& 858993459)) + ((((((v0 - ((((v0.toUInt32 >>> ((1 : Int32).toUInt32 &&& Int32.toUInt32 31)).toInt32) &&& 1431655765)))).toUInt32 >>> ((2 : Int32).toUInt32 &&& Int32.toUInt32 31)).toInt32) &&& 858993459)))).toUInt32 >>> ((4 : Int32).toUInt32 &&& Int32.toUInt32 31)).toInt32))) &&& 252645135)) + ((((((((((((v0 - ((((v0.toUInt32 >>> ((1 : Int32).toUInt32 &&& Int32.toUInt32 31)).toInt32) &&& 1431655765)))) &&& 858993459)) + ((((((v0 - ((((v0.toUInt32 >>> ((1 : Int32).toUInt32 &&& Int32.toUInt32 31)).toInt32) &&& 1431655765)))).toUInt32 >>> ((2 : Int32).toUInt32 &&& Int32.toUInt32 31)).toInt32) &&& 858993459)))) + ((((((((v0 - ((((v0.toUInt32 >>> ((1 : Int32).toUInt32 &&& Int32.toUInt32 31)).toInt32) &&& 1431655765)))) &&& 858993459)) + ((((((v0 - ((((v0.toUInt32 >>> ((1 : Int32).toUInt32 &&& Int32.toUInt32 31)).toInt32) &&& 1431655765)))).toUInt32 >>> ((2 : Int32).toUInt32 &&& Int32.toUInt32 31)).toInt32) &&& 858993459)))).toUInt32 >>> ((4 : Int32).toUInt32 &&& Int32.toUInt32 31)).toInt32))) &&& 252645135)).toUInt32 >>> ((8 : Int32).toUInt32 &&& Int32.toUInt32 31)).toInt32))) + ((((((((((((((v0 - ((((v0.toUInt32 >>> ((1 : Int32).toUInt32 &&& Int32.toUInt32 31)).toInt32) &&& 1431655765)))) &&& 858993459)) + ((((((v0 - ((((v0.toUInt32 >>> ((1 : Int32).toUInt32 &&& Int32.toUInt32 31)).toInt32) &&& 1431655765)))).toUInt32 >>> ((2 : Int32).toUInt32 &&& Int32.toUInt32 31)).toInt32) &&& 858993459)))) + ((((((((v0 - ((((v0.toUInt32 >>> ((1 : Int32).toUInt32 &&& Int32.toUInt32 31)).toInt32) &&& 1431655765)))) &&& 858993459)) + ((((((v0 - ((((v0.toUInt32 >>> ((1 : Int32).toUInt32 &&& Int32.toUInt32 31)).toInt32) &&& 1431655765)))).toUInt32 >>> ((2 : Int32).toUInt32 &&& Int32.toUInt32 31)).toInt32) &&& 858993459)))).toUInt32 >>> ((4 : Int32).toUInt32 &&& Int32.toUInt32 31)).toInt32))) &&& 252645135)) + ((((((((((((v0 - ((((v0.toUInt32 >>> ((1 : Int32).toUInt32 &&& Int32.toUInt32 31)).toInt32) &&& 1431655765)))) &&& 858993459)) + ((((((v0 - ((((v0.toUInt32 >>> ((1 : Int32).toUInt32 &&& Int32.toUInt32 31)).toInt32) &&& 1431655765)))).toUInt32 >>> ((2 : Int32).toUInt32 &&& Int32.toUInt32 31)).toInt32) &&& 858993459)))) + ((((((((v0 - ((((v0.toUInt32 >>> ((1 : Int32).toUInt32 &&& Int32.toUInt32 31)).toInt32) &&& 1431655765)))) &&& 858993459)) + ((((((v0 - ((((v0.toUInt32 >>> ((1 : Int32).toUInt32 &&& Int32.toUInt32 31)).toInt32) &&& 1431655765)))).toUInt32 >>> ((2 : Int32).toUInt32 &&& Int32.toUInt32 31)).toInt32) &&& 858993459)))).toUInt32 >>> ((4 : Int32).toUInt32 &&& Int32.toUInt32 31)).toInt32))) &&& 252645135)).toUInt32 >>> ((8 : Int32).toUInt32 &&& Int32.toUInt32 31)).toInt32))).toUInt32 >>> ((16 : Int32).toUInt32 &&& Int32.toUInt32 31)).toInt32))) &&& 63))
theorem wJ6_bitCount {E : zE} {d : Nat} (hd : 0 ≤ d) {Q : Option zV → zM → Prop} {v0 : Int32} {mm : zM} {o : Int32} (h : fJ6_bitCount v0 mm = some o) (hQ : ∀ r, o = r → Q (some (zI r)) mm) : V E RJ6 cJ6_bitCount_0f7a4 1 (some .int) d Q 0 [some (zI v0)] [] mm := by
  unfold fJ6_bitCount at h
  refine V_iload_n 1 rfl 0 dJ6_bitCount_0f7a4_0 rfl rfl ?_
  refine V_iload_n 2 rfl 0 dJ6_bitCount_0f7a4_1 rfl rfl ?_
  refine V_iconst 3 rfl (v := 1) dJ6_bitCount_0f7a4_2 (by decide) ?_
  refine V_iushr 4 rfl dJ6_bitCount_0f7a4_3 ?_
  refine V_ldcw 7 rfl (v := 1431655765) dJ6_bitCount_0f7a4_4 tb_971 ?_
  refine V_iand 8 rfl dJ6_bitCount_0f7a4_7 ?_
  refine V_isub 9 rfl dJ6_bitCount_0f7a4_8 ?_
  refine V_istore_n 10 rfl 0 (L' := [some (zI (v0 - ((((v0.toUInt32 >>> ((1 : Int32).toUInt32 &&& Int32.toUInt32 31)).toInt32) &&& 1431655765))))]) dJ6_bitCount_0f7a4_9 rfl (by decide) rfl ?_
  refine V_iload_n 11 rfl 0 dJ6_bitCount_0f7a4_10 rfl rfl ?_
  refine V_ldcw 14 rfl (v := 858993459) dJ6_bitCount_0f7a4_11 tb_972 ?_
  refine V_iand 15 rfl dJ6_bitCount_0f7a4_14 ?_
  refine V_iload_n 16 rfl 0 dJ6_bitCount_0f7a4_15 rfl rfl ?_
  refine V_iconst 17 rfl (v := 2) dJ6_bitCount_0f7a4_16 (by decide) ?_
  refine V_iushr 18 rfl dJ6_bitCount_0f7a4_17 ?_
  refine V_ldcw 21 rfl (v := 858993459) dJ6_bitCount_0f7a4_18 tb_972 ?_
  refine V_iand 22 rfl dJ6_bitCount_0f7a4_21 ?_
  refine V_iadd 23 rfl dJ6_bitCount_0f7a4_22 ?_
  refine V_istore_n 24 rfl 0 (L' := [some (zI (((((v0 - ((((v0.toUInt32 >>> ((1 : Int32).toUInt32 &&& Int32.toUInt32 31)).toInt32) &&& 1431655765)))) &&& 858993459)) + ((((((v0 - ((((v0.toUInt32 >>> ((1 : Int32).toUInt32 &&& Int32.toUInt32 31)).toInt32) &&& 1431655765)))).toUInt32 >>> ((2 : Int32).toUInt32 &&& Int32.toUInt32 31)).toInt32) &&& 858993459))))]) dJ6_bitCount_0f7a4_23 rfl (by decide) rfl ?_
  refine V_iload_n 25 rfl 0 dJ6_bitCount_0f7a4_24 rfl rfl ?_
  refine V_iload_n 26 rfl 0 dJ6_bitCount_0f7a4_25 rfl rfl ?_
  refine V_iconst 27 rfl (v := 4) dJ6_bitCount_0f7a4_26 (by decide) ?_
  refine V_iushr 28 rfl dJ6_bitCount_0f7a4_27 ?_
  refine V_iadd 29 rfl dJ6_bitCount_0f7a4_28 ?_
  refine V_ldcw 32 rfl (v := 252645135) dJ6_bitCount_0f7a4_29 tb_973 ?_
  refine V_iand 33 rfl dJ6_bitCount_0f7a4_32 ?_
  refine V_istore_n 34 rfl 0 (L' := [some (zI (((((((((v0 - ((((v0.toUInt32 >>> ((1 : Int32).toUInt32 &&& Int32.toUInt32 31)).toInt32) &&& 1431655765)))) &&& 858993459)) + ((((((v0 - ((((v0.toUInt32 >>> ((1 : Int32).toUInt32 &&& Int32.toUInt32 31)).toInt32) &&& 1431655765)))).toUInt32 >>> ((2 : Int32).toUInt32 &&& Int32.toUInt32 31)).toInt32) &&& 858993459)))) + ((((((((v0 - ((((v0.toUInt32 >>> ((1 : Int32).toUInt32 &&& Int32.toUInt32 31)).toInt32) &&& 1431655765)))) &&& 858993459)) + ((((((v0 - ((((v0.toUInt32 >>> ((1 : Int32).toUInt32 &&& Int32.toUInt32 31)).toInt32) &&& 1431655765)))).toUInt32 >>> ((2 : Int32).toUInt32 &&& Int32.toUInt32 31)).toInt32) &&& 858993459)))).toUInt32 >>> ((4 : Int32).toUInt32 &&& Int32.toUInt32 31)).toInt32))) &&& 252645135))]) dJ6_bitCount_0f7a4_33 rfl (by decide) rfl ?_
  refine V_iload_n 35 rfl 0 dJ6_bitCount_0f7a4_34 rfl rfl ?_
  refine V_iload_n 36 rfl 0 dJ6_bitCount_0f7a4_35 rfl rfl ?_
  refine V_bipush 38 rfl (v := 8) dJ6_bitCount_0f7a4_36 (by decide) ?_
  refine V_iushr 39 rfl dJ6_bitCount_0f7a4_38 ?_
  refine V_iadd 40 rfl dJ6_bitCount_0f7a4_39 ?_
  refine V_istore_n 41 rfl 0 (L' := [some (zI (((((((((((v0 - ((((v0.toUInt32 >>> ((1 : Int32).toUInt32 &&& Int32.toUInt32 31)).toInt32) &&& 1431655765)))) &&& 858993459)) + ((((((v0 - ((((v0.toUInt32 >>> ((1 : Int32).toUInt32 &&& Int32.toUInt32 31)).toInt32) &&& 1431655765)))).toUInt32 >>> ((2 : Int32).toUInt32 &&& Int32.toUInt32 31)).toInt32) &&& 858993459)))) + ((((((((v0 - ((((v0.toUInt32 >>> ((1 : Int32).toUInt32 &&& Int32.toUInt32 31)).toInt32) &&& 1431655765)))) &&& 858993459)) + ((((((v0 - ((((v0.toUInt32 >>> ((1 : Int32).toUInt32 &&& Int32.toUInt32 31)).toInt32) &&& 1431655765)))).toUInt32 >>> ((2 : Int32).toUInt32 &&& Int32.toUInt32 31)).toInt32) &&& 858993459)))).toUInt32 >>> ((4 : Int32).toUInt32 &&& Int32.toUInt32 31)).toInt32))) &&& 252645135)) + ((((((((((((v0 - ((((v0.toUInt32 >>> ((1 : Int32).toUInt32 &&& Int32.toUInt32 31)).toInt32) &&& 1431655765)))) &&& 858993459)) + ((((((v0 - ((((v0.toUInt32 >>> ((1 : Int32).toUInt32 &&& Int32.toUInt32 31)).toInt32) &&& 1431655765)))).toUInt32 >>> ((2 : Int32).toUInt32 &&& Int32.toUInt32 31)).toInt32) &&& 858993459)))) + ((((((((v0 - ((((v0.toUInt32 >>> ((1 : Int32).toUInt32 &&& Int32.toUInt32 31)).toInt32) &&& 1431655765)))) &&& 858993459)) + ((((((v0 - ((((v0.toUInt32 >>> ((1 : Int32).toUInt32 &&& Int32.toUInt32 31)).toInt32) &&& 1431655765)))).toUInt32 >>> ((2 : Int32).toUInt32 &&& Int32.toUInt32 31)).toInt32) &&& 858993459)))).toUInt32 >>> ((4 : Int32).toUInt32 &&& Int32.toUInt32 31)).toInt32))) &&& 252645135)).toUInt32 >>> ((8 : Int32).toUInt32 &&& Int32.toUInt32 31)).toInt32)))]) dJ6_bitCount_0f7a4_40 rfl (by decide) rfl ?_
  refine V_iload_n 42 rfl 0 dJ6_bitCount_0f7a4_41 rfl rfl ?_
  refine V_iload_n 43 rfl 0 dJ6_bitCount_0f7a4_42 rfl rfl ?_
  refine V_bipush 45 rfl (v := 16) dJ6_bitCount_0f7a4_43 (by decide) ?_
  refine V_iushr 46 rfl dJ6_bitCount_0f7a4_45 ?_
  refine V_iadd 47 rfl dJ6_bitCount_0f7a4_46 ?_
  refine V_istore_n 48 rfl 0 (L' := [some (zI (((((((((((((v0 - ((((v0.toUInt32 >>> ((1 : Int32).toUInt32 &&& Int32.toUInt32 31)).toInt32) &&& 1431655765)))) &&& 858993459)) + ((((((v0 - ((((v0.toUInt32 >>> ((1 : Int32).toUInt32 &&& Int32.toUInt32 31)).toInt32) &&& 1431655765)))).toUInt32 >>> ((2 : Int32).toUInt32 &&& Int32.toUInt32 31)).toInt32) &&& 858993459)))) + ((((((((v0 - ((((v0.toUInt32 >>> ((1 : Int32).toUInt32 &&& Int32.toUInt32 31)).toInt32) &&& 1431655765)))) &&& 858993459)) + ((((((v0 - ((((v0.toUInt32 >>> ((1 : Int32).toUInt32 &&& Int32.toUInt32 31)).toInt32) &&& 1431655765)))).toUInt32 >>> ((2 : Int32).toUInt32 &&& Int32.toUInt32 31)).toInt32) &&& 858993459)))).toUInt32 >>> ((4 : Int32).toUInt32 &&& Int32.toUInt32 31)).toInt32))) &&& 252645135)) + ((((((((((((v0 - ((((v0.toUInt32 >>> ((1 : Int32).toUInt32 &&& Int32.toUInt32 31)).toInt32) &&& 1431655765)))) &&& 858993459)) + ((((((v0 - ((((v0.toUInt32 >>> ((1 : Int32).toUInt32 &&& Int32.toUInt32 31)).toInt32) &&& 1431655765)))).toUInt32 >>> ((2 : Int32).toUInt32 &&& Int32.toUInt32 31)).toInt32) &&& 858993459)))) + ((((((((v0 - ((((v0.toUInt32 >>> ((1 : Int32).toUInt32 &&& Int32.toUInt32 31)).toInt32) &&& 1431655765)))) &&& 858993459)) + ((((((v0 - ((((v0.toUInt32 >>> ((1 : Int32).toUInt32 &&& Int32.toUInt32 31)).toInt32) &&& 1431655765)))).toUInt32 >>> ((2 : Int32).toUInt32 &&& Int32.toUInt32 31)).toInt32) &&& 858993459)))).toUInt32 >>> ((4 : Int32).toUInt32 &&& Int32.toUInt32 31)).toInt32))) &&& 252645135)).toUInt32 >>> ((8 : Int32).toUInt32 &&& Int32.toUInt32 31)).toInt32))) + ((((((((((((((v0 - ((((v0.toUInt32 >>> ((1 : Int32).toUInt32 &&& Int32.toUInt32 31)).toInt32) &&& 1431655765)))) &&& 858993459)) + ((((((v0 - ((((v0.toUInt32 >>> ((1 : Int32).toUInt32 &&& Int32.toUInt32 31)).toInt32) &&& 1431655765)))).toUInt32 >>> ((2 : Int32).toUInt32 &&& Int32.toUInt32 31)).toInt32) &&& 858993459)))) + ((((((((v0 - ((((v0.toUInt32 >>> ((1 : Int32).toUInt32 &&& Int32.toUInt32 31)).toInt32) &&& 1431655765)))) &&& 858993459)) + ((((((v0 - ((((v0.toUInt32 >>> ((1 : Int32).toUInt32 &&& Int32.toUInt32 31)).toInt32) &&& 1431655765)))).toUInt32 >>> ((2 : Int32).toUInt32 &&& Int32.toUInt32 31)).toInt32) &&& 858993459)))).toUInt32 >>> ((4 : Int32).toUInt32 &&& Int32.toUInt32 31)).toInt32))) &&& 252645135)) + ((((((((((((v0 - ((((v0.toUInt32 >>> ((1 : Int32).toUInt32 &&& Int32.toUInt32 31)).toInt32) &&& 1431655765)))) &&& 858993459)) + ((((((v0 - ((((v0.toUInt32 >>> ((1 : Int32).toUInt32 &&& Int32.toUInt32 31)).toInt32) &&& 1431655765)))).toUInt32 >>> ((2 : Int32).toUInt32 &&& Int32.toUInt32 31)).toInt32) &&& 858993459)))) + ((((((((v0 - ((((v0.toUInt32 >>> ((1 : Int32).toUInt32 &&& Int32.toUInt32 31)).toInt32) &&& 1431655765)))) &&& 858993459)) + ((((((v0 - ((((v0.toUInt32 >>> ((1 : Int32).toUInt32 &&& Int32.toUInt32 31)).toInt32) &&& 1431655765)))).toUInt32 >>> ((2 : Int32).toUInt32 &&& Int32.toUInt32 31)).toInt32) &&& 858993459)))).toUInt32 >>> ((4 : Int32).toUInt32 &&& Int32.toUInt32 31)).toInt32))) &&& 252645135)).toUInt32 >>> ((8 : Int32).toUInt32 &&& Int32.toUInt32 31)).toInt32))).toUInt32 >>> ((16 : Int32).toUInt32 &&& Int32.toUInt32 31)).toInt32)))]) dJ6_bitCount_0f7a4_47 rfl (by decide) rfl ?_
  refine V_iload_n 49 rfl 0 dJ6_bitCount_0f7a4_48 rfl rfl ?_
  refine V_bipush 51 rfl (v := 63) dJ6_bitCount_0f7a4_49 (by decide) ?_
  refine V_iand 52 rfl dJ6_bitCount_0f7a4_51 ?_
  exact V_iret dJ6_bitCount_0f7a4_52 rfl (hQ ((((((((((((((((v0 - ((((v0.toUInt32 >>> ((1 : Int32).toUInt32 &&& Int32.toUInt32 31)).toInt32) &&& 1431655765)))) &&& 858993459)) + ((((((v0 - ((((v0.toUInt32 >>> ((1 : Int32).toUInt32 &&& Int32.toUInt32 31)).toInt32) &&& 1431655765)))).toUInt32 >>> ((2 : Int32).toUInt32 &&& Int32.toUInt32 31)).toInt32) &&& 858993459)))) + ((((((((v0 - ((((v0.toUInt32 >>> ((1 : Int32).toUInt32 &&& Int32.toUInt32 31)).toInt32) &&& 1431655765)))) &&& 858993459)) + ((((((v0 - ((((v0.toUInt32 >>> ((1 : Int32).toUInt32 &&& Int32.toUInt32 31)).toInt32) &&& 1431655765)))).toUInt32 >>> ((2 : Int32).toUInt32 &&& Int32.toUInt32 31)).toInt32) &&& 858993459)))).toUInt32 >>> ((4 : Int32).toUInt32 &&& Int32.toUInt32 31)).toInt32))) &&& 252645135)) + ((((((((((((v0 - ((((v0.toUInt32 >>> ((1 : Int32).toUInt32 &&& Int32.toUInt32 31)).toInt32) &&& 1431655765)))) &&& 858993459)) + ((((((v0 - ((((v0.toUInt32 >>> ((1 : Int32).toUInt32 &&& Int32.toUInt32 31)).toInt32) &&& 1431655765)))).toUInt32 >>> ((2 : Int32).toUInt32 &&& Int32.toUInt32 31)).toInt32) &&& 858993459)))) + ((((((((v0 - ((((v0.toUInt32 >>> ((1 : Int32).toUInt32 &&& Int32.toUInt32 31)).toInt32) &&& 1431655765)))) &&& 858993459)) + ((((((v0 - ((((v0.toUInt32 >>> ((1 : Int32).toUInt32 &&& Int32.toUInt32 31)).toInt32) &&& 1431655765)))).toUInt32 >>> ((2 : Int32).toUInt32 &&& Int32.toUInt32 31)).toInt32) &&& 858993459)))).toUInt32 >>> ((4 : Int32).toUInt32 &&& Int32.toUInt32 31)).toInt32))) &&& 252645135)).toUInt32 >>> ((8 : Int32).toUInt32 &&& Int32.toUInt32 31)).toInt32))) + ((((((((((((((v0 - ((((v0.toUInt32 >>> ((1 : Int32).toUInt32 &&& Int32.toUInt32 31)).toInt32) &&& 1431655765)))) &&& 858993459)) + ((((((v0 - ((((v0.toUInt32 >>> ((1 : Int32).toUInt32 &&& Int32.toUInt32 31)).toInt32) &&& 1431655765)))).toUInt32 >>> ((2 : Int32).toUInt32 &&& Int32.toUInt32 31)).toInt32) &&& 858993459)))) + ((((((((v0 - ((((v0.toUInt32 >>> ((1 : Int32).toUInt32 &&& Int32.toUInt32 31)).toInt32) &&& 1431655765)))) &&& 858993459)) + ((((((v0 - ((((v0.toUInt32 >>> ((1 : Int32).toUInt32 &&& Int32.toUInt32 31)).toInt32) &&& 1431655765)))).toUInt32 >>> ((2 : Int32).toUInt32 &&& Int32.toUInt32 31)).toInt32) &&& 858993459)))).toUInt32 >>> ((4 : Int32).toUInt32 &&& Int32.toUInt32 31)).toInt32))) &&& 252645135)) + ((((((((((((v0 - ((((v0.toUInt32 >>> ((1 : Int32).toUInt32 &&& Int32.toUInt32 31)).toInt32) &&& 1431655765)))) &&& 858993459)) + ((((((v0 - ((((v0.toUInt32 >>> ((1 : Int32).toUInt32 &&& Int32.toUInt32 31)).toInt32) &&& 1431655765)))).toUInt32 >>> ((2 : Int32).toUInt32 &&& Int32.toUInt32 31)).toInt32) &&& 858993459)))) + ((((((((v0 - ((((v0.toUInt32 >>> ((1 : Int32).toUInt32 &&& Int32.toUInt32 31)).toInt32) &&& 1431655765)))) &&& 858993459)) + ((((((v0 - ((((v0.toUInt32 >>> ((1 : Int32).toUInt32 &&& Int32.toUInt32 31)).toInt32) &&& 1431655765)))).toUInt32 >>> ((2 : Int32).toUInt32 &&& Int32.toUInt32 31)).toInt32) &&& 858993459)))).toUInt32 >>> ((4 : Int32).toUInt32 &&& Int32.toUInt32 31)).toInt32))) &&& 252645135)).toUInt32 >>> ((8 : Int32).toUInt32 &&& Int32.toUInt32 31)).toInt32))).toUInt32 >>> ((16 : Int32).toUInt32 &&& Int32.toUInt32 31)).toInt32))) &&& 63)) (zinj h))
theorem ctJ6_bitCount {E : zE} {d : Nat} (hd : 0 ≤ d) {v0 : Int32} {mm : zM} {o : Int32} (h : fJ6_bitCount v0 mm = some o) : zOC E yJ6_bitCount_0f7a4 cJ6_bitCount_0f7a4 1 (some .int) d [zI v0] mm (some (zI o)) mm :=
  zCT_of (by decide) (Nat.le_of_ble_eq_true rfl) (zk_i zk_0) rfl (wJ6_bitCount hd h (fun r e => ⟨by rw [e], rfl⟩))
def fX3_leastThatCanFollow_L2 (v1 : Int32) (mm : zM) (s : Int32) : Option (Int32 ⊕ (Unit ⊕ Int32)) :=
  if 12 ≤ s then (some (.inr (.inl ()))) else ((fX3_canFollow v1 s mm).bind (fun x1 => if x1 = 0 then (some (.inl (s + 1))) else (some (.inr (.inr s)))))
def fX3_leastThatCanFollow (v1 : Int32) (mm : zM) : Option Int32 :=
  (zloop (fX3_leastThatCanFollow_L2 v1 mm) zF 0).bind (fun o4 => zcase o4 (fun y2 => some ((-1))) (fun r3 => some r3))
theorem wX3_leastThatCanFollow_L2 {E : zE} {d : Nat} (hd : 2 ≤ d) {Q : Option zV → zM → Prop} {v1 : Int32} {mm : zM} {n : Nat} {s : Int32} {o : Unit ⊕ Int32} (h : zloop (fX3_leastThatCanFollow_L2 v1 mm) n s = some o) (he : ∀ y : Unit, o = .inl y → V E RX3 cX3_leastThatCanFollow 3 (some .int) d Q 25 [none, none, none] [] mm) (hr : ∀ r : Int32, o = .inr r → Q (some (zI r)) mm) : V E RX3 cX3_leastThatCanFollow 3 (some .int) d Q 2 [some (zK 3 0), some (zI v1), some (zI s)] [] mm := by
  induction n generalizing s with
  | zero => exact (zloop_0 h).elim
  | succ n ih =>
    obtain ⟨o1, h1, hc1, he1⟩ := zloop_s h
    have kc : ∀ s' : Int32, o1 = .inl s' → V E RX3 cX3_leastThatCanFollow 3 (some .int) d Q 2 [some (zK 3 0), some (zI v1), some (zI s')] [] mm := fun s' e => ih (hc1 s' e)
    have ke : ∀ y : Unit, o1 = .inr (.inl y) → V E RX3 cX3_leastThatCanFollow 3 (some .int) d Q 25 [none, none, none] [] mm := fun y e => he y (he1 _ e)
    have kr : ∀ r : Int32, o1 = .inr (.inr r) → Q (some (zI r)) mm := fun r e => hr r (he1 _ e)
    clear h hc1 he1 ih
    have h := h1
    clear h1
    unfold fX3_leastThatCanFollow_L2 at h
    refine V_iload_n 3 rfl 2 dX3_leastThatCanFollow_2 rfl rfl ?_
    refine V_bipush 5 rfl (v := 12) dX3_leastThatCanFollow_3 (by decide) ?_
    refine V_icmp_ge 8 25 rfl dX3_leastThatCanFollow_5 (by decide) (fun c => ?_) (fun c => ?_)
    · have h := zpos c h
      exact V_w (zsub_n (zsub_n (zsub_n zsub_0))) (ke () (zinj h))
    · have h := zneg c h
      refine V_aload_n 9 rfl 0 dX3_leastThatCanFollow_8 rfl rfl ?_
      refine V_iload_n 10 rfl 1 dX3_leastThatCanFollow_9 rfl rfl ?_
      refine V_iload_n 11 rfl 2 dX3_leastThatCanFollow_10 rfl rfl ?_
      obtain ⟨x1, h1, h⟩ := zbd h
      refine V_cV 14 rfl 1 [zI v1, zI s] [] dX3_leastThatCanFollow_11 cv_X3_68 (ctX3_canFollow (Nat.le_refl 1) h1) (Nat.le_trans (by decide) hd) rfl rfl (Nat.le_of_ble_eq_true rfl) zoki rfl ?_
      refine V_if_eq 17 19 rfl dX3_leastThatCanFollow_14 (by decide) (fun c => ?_) (fun c => ?_)
      · have h := zpos c h
        refine V_iinc 22 rfl (s + 1) (L' := [some (zK 3 0), some (zI v1), some (zI (s + 1))]) dX3_leastThatCanFollow_19 rfl rfl (by decide) rfl ?_
        refine V_goto 2 dX3_leastThatCanFollow_22 (by decide) ?_
        exact kc (s + 1) (zinj h)
      · have h := zneg c h
        refine V_iload_n 18 rfl 2 dX3_leastThatCanFollow_17 rfl rfl ?_
        exact V_iret dX3_leastThatCanFollow_18 rfl (kr s (zinj h))
theorem wX3_leastThatCanFollow {E : zE} {d : Nat} (hd : 2 ≤ d) {Q : Option zV → zM → Prop} {v1 : Int32} {mm : zM} {o : Int32} (h : fX3_leastThatCanFollow v1 mm = some o) (hQ : ∀ r, o = r → Q (some (zI r)) mm) : V E RX3 cX3_leastThatCanFollow 3 (some .int) d Q 0 [some (zK 3 0), some (zI v1), none] [] mm := by
  unfold fX3_leastThatCanFollow at h
  refine V_iconst 1 rfl (v := 0) dX3_leastThatCanFollow_0 (by decide) ?_
  refine V_istore_n 2 rfl 2 (L' := [some (zK 3 0), some (zI v1), some (zI 0)]) dX3_leastThatCanFollow_1 rfl (by decide) rfl ?_
  obtain ⟨o4, h1, h⟩ := zbd h
  refine wX3_leastThatCanFollow_L2 hd h1 (fun y2 e => ?_) (fun r e => by have h := zcr_ e h; exact hQ r (zinj h))
  have h := zcl_ e h
  refine V_iconst 26 rfl (v := (-1)) dX3_leastThatCanFollow_25 (by decide) ?_
  exact V_iret dX3_leastThatCanFollow_26 rfl (hQ ((-1)) (zinj h))
theorem ctX3_leastThatCanFollow {E : zE} {d : Nat} (hd : 2 ≤ d) {v1 : Int32} {mm : zM} {o : Int32} (h : fX3_leastThatCanFollow v1 mm = some o) : zOC E yX3_leastThatCanFollow cX3_leastThatCanFollow 3 (some .int) d [zK 3 0, zI v1] mm (some (zI o)) mm :=
  zCT_of (by decide) (Nat.le_of_ble_eq_true rfl) (zk_k (zk_i zk_0)) rfl (wX3_leastThatCanFollow hd h (fun r e => ⟨by rw [e], rfl⟩))
def fX3_inFirst_L31 (v1 : Int32) (mm : zM) (s : (Int32 × Int32 × Int32)) : Option ((Int32 × Int32 × Int32) ⊕ (Int32 ⊕ Int32)) :=
  if v1 < s.2.2 then (some (.inr (.inl s.2.1))) else ((fX3_leastThatCanFollow s.1 mm).bind (fun x3 => if x3 = (-1) then (some (.inr (.inr ((-1))))) else (some (.inl ((s.1 ||| ((1 <<< (x3 &&& 31)))), x3, (s.2.2 + 1))))))
def fX3_inFirst (v1 : Int32) (mm : zM) : Option Int32 :=
  if v1 < 0 then (some ((-1))) else ((fJ6_bitCount ((gi mm 3 0 2)) mm).bind (fun x1 => if x1 ≤ v1 then (some ((-1))) else ((fX3_hasNone mm).bind (fun x2 => if x2 = 0 then ((zloop (fX3_inFirst_L31 v1 mm) zF (0, (-1), 0)).bind (fun o6 => zcase o6 (fun y4 => some y4) (fun r5 => some r5))) else (some ((-1)))))))
theorem wX3_inFirst_L31 {E : zE} {d : Nat} (hd : 3 ≤ d) {Q : Option zV → zM → Prop} {v1 : Int32} {mm : zM} {n : Nat} {s : (Int32 × Int32 × Int32)} {o : Int32 ⊕ Int32} (h : zloop (fX3_inFirst_L31 v1 mm) n s = some o) (he : ∀ y : Int32, o = .inl y → V E RX3 cX3_inFirst 5 (some .int) d Q 62 [none, none, none, some (zI y), none] [] mm) (hr : ∀ r : Int32, o = .inr r → Q (some (zI r)) mm) : V E RX3 cX3_inFirst 5 (some .int) d Q 31 [some (zK 3 0), some (zI v1), some (zI s.1), some (zI s.2.1), some (zI s.2.2)] [] mm := by
  induction n generalizing s with
  | zero => exact (zloop_0 h).elim
  | succ n ih =>
    obtain ⟨o1, h1, hc1, he1⟩ := zloop_s h
    have kc : ∀ s' : (Int32 × Int32 × Int32), o1 = .inl s' → V E RX3 cX3_inFirst 5 (some .int) d Q 31 [some (zK 3 0), some (zI v1), some (zI s'.1), some (zI s'.2.1), some (zI s'.2.2)] [] mm := fun s' e => ih (hc1 s' e)
    have ke : ∀ y : Int32, o1 = .inr (.inl y) → V E RX3 cX3_inFirst 5 (some .int) d Q 62 [none, none, none, some (zI y), none] [] mm := fun y e => he y (he1 _ e)
    have kr : ∀ r : Int32, o1 = .inr (.inr r) → Q (some (zI r)) mm := fun r e => hr r (he1 _ e)
    clear h hc1 he1 ih
    have h := h1
    clear h1
    unfold fX3_inFirst_L31 at h
    refine V_iload 33 rfl dX3_inFirst_31 rfl ?_
    refine V_iload_n 34 rfl 1 dX3_inFirst_33 rfl rfl ?_
    refine V_icmp_gt 37 62 rfl dX3_inFirst_34 (by decide) (fun c => ?_) (fun c => ?_)
    · have h := zpos c h
      exact V_w (zsub_n (zsub_n (zsub_n (zsub_s (zsub_n zsub_0))))) (ke s.2.1 (zinj h))
    · have h := zneg c h
      refine V_aload_n 38 rfl 0 dX3_inFirst_37 rfl rfl ?_
      refine V_iload_n 39 rfl 2 dX3_inFirst_38 rfl rfl ?_
      obtain ⟨x3, h1, h⟩ := zbd h
      refine V_cV 42 rfl 2 [zI s.1] [] dX3_inFirst_39 cv_X3_77 (ctX3_leastThatCanFollow (Nat.le_refl 2) h1) (Nat.le_trans (by decide) hd) rfl rfl (Nat.le_of_ble_eq_true rfl) zoki rfl ?_
      refine V_istore_n 43 rfl 3 (L' := [some (zK 3 0), some (zI v1), some (zI s.1), some (zI x3), some (zI s.2.2)]) dX3_inFirst_42 rfl (by decide) rfl ?_
      refine V_iload_n 44 rfl 3 dX3_inFirst_43 rfl rfl ?_
      refine V_iconst 45 rfl (v := (-1)) dX3_inFirst_44 (by decide) ?_
      refine V_icmp_ne 48 50 rfl dX3_inFirst_45 (by decide) (fun c => ?_) (fun c => ?_)
      · have h := zneg c h
        refine V_iload_n 51 rfl 2 dX3_inFirst_50 rfl rfl ?_
        refine V_iconst 52 rfl (v := 1) dX3_inFirst_51 (by decide) ?_
        refine V_iload_n 53 rfl 3 dX3_inFirst_52 rfl rfl ?_
        refine V_ishl 54 rfl dX3_inFirst_53 ?_
        refine V_ior 55 rfl dX3_inFirst_54 ?_
        refine V_istore_n 56 rfl 2 (L' := [some (zK 3 0), some (zI v1), some (zI (s.1 ||| ((1 <<< (x3 &&& 31))))), some (zI x3), some (zI s.2.2)]) dX3_inFirst_55 rfl (by decide) rfl ?_
        refine V_iinc 59 rfl (s.2.2 + 1) (L' := [some (zK 3 0), some (zI v1), some (zI (s.1 ||| ((1 <<< (x3 &&& 31))))), some (zI x3), some (zI (s.2.2 + 1))]) dX3_inFirst_56 rfl rfl (by decide) rfl ?_
        refine V_goto 31 dX3_inFirst_59 (by decide) ?_
        exact kc ((s.1 ||| ((1 <<< (x3 &&& 31)))), x3, (s.2.2 + 1)) (zinj h)
      · have h := zpos c h
        refine V_iconst 49 rfl (v := (-1)) dX3_inFirst_48 (by decide) ?_
        exact V_iret dX3_inFirst_49 rfl (kr ((-1)) (zinj h))
theorem wX3_inFirst {E : zE} {d : Nat} (hd : 3 ≤ d) {Q : Option zV → zM → Prop} {v1 : Int32} {mm : zM} {o : Int32} (h : fX3_inFirst v1 mm = some o) (hQ : ∀ r, o = r → Q (some (zI r)) mm) : V E RX3 cX3_inFirst 5 (some .int) d Q 0 [some (zK 3 0), some (zI v1), none, none, none] [] mm := by
  unfold fX3_inFirst at h
  refine V_iload_n 1 rfl 1 dX3_inFirst_0 rfl rfl ?_
  refine V_if_lt 4 22 rfl dX3_inFirst_1 (by decide) (fun c => ?_) (fun c => ?_)
  · have h := zpos c h
    refine V_iconst 23 rfl (v := (-1)) dX3_inFirst_22 (by decide) ?_
    exact V_iret dX3_inFirst_23 rfl (hQ ((-1)) (zinj h))
  · have h := zneg c h
    refine V_iload_n 5 rfl 1 dX3_inFirst_4 rfl rfl ?_
    refine V_aload_n 6 rfl 0 dX3_inFirst_5 rfl rfl ?_
    refine V_geti 9 rfl dX3_inFirst_6 fl_X3_18 rfl ?_
    obtain ⟨x1, h1, h⟩ := zbd h
    refine V_cS 12 rfl 0 [zI (gi mm 3 0 2)] [zI v1] dX3_inFirst_9 cs_X3_71 (ctJ6_bitCount (Nat.le_refl 0) h1) (Nat.le_trans (by decide) hd) rfl rfl (Nat.le_of_ble_eq_true rfl) zoki rfl ?_
    refine V_icmp_ge 15 22 rfl dX3_inFirst_12 (by decide) (fun c => ?_) (fun c => ?_)
    · have h := zpos c h
      refine V_iconst 23 rfl (v := (-1)) dX3_inFirst_22 (by decide) ?_
      exact V_iret dX3_inFirst_23 rfl (hQ ((-1)) (zinj h))
    · have h := zneg c h
      refine V_aload_n 16 rfl 0 dX3_inFirst_15 rfl rfl ?_
      obtain ⟨x2, h1, h⟩ := zbd h
      refine V_cV 19 rfl 1 [] [] dX3_inFirst_16 cv_X3_60 (ctX3_hasNone (Nat.le_refl 1) h1) (Nat.le_trans (by decide) hd) rfl rfl (Nat.le_of_ble_eq_true rfl) zoki rfl ?_
      refine V_if_eq 22 24 rfl dX3_inFirst_19 (by decide) (fun c => ?_) (fun c => ?_)
      · have h := zpos c h
        refine V_iconst 25 rfl (v := 0) dX3_inFirst_24 (by decide) ?_
        refine V_istore_n 26 rfl 2 (L' := [some (zK 3 0), some (zI v1), some (zI 0), none, none]) dX3_inFirst_25 rfl (by decide) rfl ?_
        refine V_iconst 27 rfl (v := (-1)) dX3_inFirst_26 (by decide) ?_
        refine V_istore_n 28 rfl 3 (L' := [some (zK 3 0), some (zI v1), some (zI 0), some (zI (-1)), none]) dX3_inFirst_27 rfl (by decide) rfl ?_
        refine V_iconst 29 rfl (v := 0) dX3_inFirst_28 (by decide) ?_
        refine V_istore 31 rfl (L' := [some (zK 3 0), some (zI v1), some (zI 0), some (zI (-1)), some (zI 0)]) dX3_inFirst_29 (by decide) rfl ?_
        obtain ⟨o6, h1, h⟩ := zbd h
        refine wX3_inFirst_L31 hd h1 (fun y4 e => ?_) (fun r e => by have h := zcr_ e h; exact hQ r (zinj h))
        have h := zcl_ e h
        refine V_iload_n 63 rfl 3 dX3_inFirst_62 rfl rfl ?_
        exact V_iret dX3_inFirst_63 rfl (hQ y4 (zinj h))
      · have h := zneg c h
        refine V_iconst 23 rfl (v := (-1)) dX3_inFirst_22 (by decide) ?_
        exact V_iret dX3_inFirst_23 rfl (hQ ((-1)) (zinj h))
theorem ctX3_inFirst {E : zE} {d : Nat} (hd : 3 ≤ d) {v1 : Int32} {mm : zM} {o : Int32} (h : fX3_inFirst v1 mm = some o) : zOC E yX3_inFirst cX3_inFirst 5 (some .int) d [zK 3 0, zI v1] mm (some (zI o)) mm :=
  zCT_of (by decide) (Nat.le_of_ble_eq_true rfl) (zk_k (zk_i zk_0)) rfl (wX3_inFirst hd h (fun r e => ⟨by rw [e], rfl⟩))
def fX9_first (v1 : Int32) (v2 : Int32) (mm : zM) : Option (Int32 × zM) :=
  (gr mm 9 2).bind (fun j1 => (fX8_isType j1 v1 mm).bind (fun x2 => if x2 = 0 then (some (((-1), mm))) else ((fX9_settle mm).bind (fun x3 => (gr x3 9 2).bind (fun j4 => zob (zin v1 12) ((fX3_prepare j4 ((gi x3 22 0 (zn v1))) x3).bind (fun x5 => (fX3_inFirst v2 x5).bind (fun x6 => some ((x6, x5))))))))))
theorem wX9_first {E : zE} {d : Nat} (hd : 5 ≤ d) {Q : Option zV → zM → Prop} {v1 : Int32} {v2 : Int32} {mm : zM} {o : (Int32 × zM)} (h : fX9_first v1 v2 mm = some o) (hQ : ∀ r, o = r → Q (some (zI r.1)) r.2) : V E RX9 cX9_first 3 (some .int) d Q 0 [some (zK 9 0), some (zI v1), some (zI v2)] [] mm := by
  unfold fX9_first at h
  refine V_aload_n 1 rfl 0 dX9_first_0 rfl rfl ?_
  obtain ⟨j1, hj, h⟩ := zbd h
  refine V_getm 4 rfl 8 dX9_first_1 fl_X9_16 rfl rfl hj ?_
  refine V_iload_n 5 rfl 1 dX9_first_4 rfl rfl ?_
  obtain ⟨x2, h1, h⟩ := zbd h
  refine V_cV 8 rfl 1 [zI v1] [] dX9_first_5 cv_X9_94 (ctX8_isType (Nat.le_refl 1) h1) (Nat.le_trans (by decide) hd) rfl rfl (Nat.le_of_ble_eq_true rfl) zoki rfl ?_
  refine V_if_ne 11 13 rfl dX9_first_8 (by decide) (fun c => ?_) (fun c => ?_)
  · have h := zneg c h
    refine V_aload_n 14 rfl 0 dX9_first_13 rfl rfl ?_
    obtain ⟨x3, h1, h⟩ := zbd h
    refine V_cV 17 rfl 4 [] [] dX9_first_14 cv_X9_201 (ctX9_settle (Nat.le_refl 4) h1) (Nat.le_trans (by decide) hd) rfl rfl (Nat.le_of_ble_eq_true rfl) zokn rfl ?_
    refine V_aload_n 18 rfl 0 dX9_first_17 rfl rfl ?_
    refine V_getr 21 rfl 3 0 dX9_first_18 fl_X9_58 rfl rfl rfl ?_
    refine V_aload_n 22 rfl 0 dX9_first_21 rfl rfl ?_
    obtain ⟨j4, hj, h⟩ := zbd h
    refine V_getm 25 rfl 8 dX9_first_22 fl_X9_16 rfl rfl hj ?_
    refine V_aload_n 26 rfl 0 dX9_first_25 rfl rfl ?_
    refine V_getr 29 rfl 2 0 dX9_first_26 fl_X9_51 rfl rfl rfl ?_
    refine V_getr 32 rfl 22 0 dX9_first_29 fl_X9_251 rfl rfl rfl ?_
    refine V_iload_n 33 rfl 1 dX9_first_32 rfl rfl ?_
    obtain ⟨hi, h⟩ := zobd h
    refine V_iald 34 rfl dX9_first_33 rfl hi ?_
    obtain ⟨x5, h1, h⟩ := zbd h
    refine V_cV 37 rfl 2 [zK 8 j4, zI (gi x3 22 0 (zn v1))] [] dX9_first_34 cv_X9_256 (ctX3_prepare (Nat.le_refl 2) h1) (Nat.le_trans (by decide) hd) rfl rfl (Nat.le_of_ble_eq_true rfl) zokn rfl ?_
    refine V_aload_n 38 rfl 0 dX9_first_37 rfl rfl ?_
    refine V_getr 41 rfl 3 0 dX9_first_38 fl_X9_58 rfl rfl rfl ?_
    refine V_iload_n 42 rfl 2 dX9_first_41 rfl rfl ?_
    obtain ⟨x6, h1, h⟩ := zbd h
    refine V_cV 45 rfl 3 [zI v2] [] dX9_first_42 cv_X9_264 (ctX3_inFirst (Nat.le_refl 3) h1) (Nat.le_trans (by decide) hd) rfl rfl (Nat.le_of_ble_eq_true rfl) zoki rfl ?_
    exact V_iret dX9_first_45 rfl (hQ ((x6, x5)) (zinj h))
  · have h := zpos c h
    refine V_iconst 12 rfl (v := (-1)) dX9_first_11 (by decide) ?_
    exact V_iret dX9_first_12 rfl (hQ (((-1), mm)) (zinj h))
theorem ctX9_first {E : zE} {d : Nat} (hd : 5 ≤ d) {v1 : Int32} {v2 : Int32} {mm : zM} {o : (Int32 × zM)} (h : fX9_first v1 v2 mm = some o) : zOC E yX9_first cX9_first 3 (some .int) d [zK 9 0, zI v1, zI v2] mm (some (zI o.1)) o.2 :=
  zCT_of (by decide) (Nat.le_of_ble_eq_true rfl) (zk_k (zk_i (zk_i zk_0))) rfl (wX9_first hd h (fun r e => ⟨by rw [e], by rw [e]⟩))
def fX3_placesOf_L13 (v1 : Int32) (mm : zM) (s : (Int32 × Int32)) : Option ((Int32 × Int32) ⊕ (Int32 ⊕ Empty)) :=
  if 12 ≤ s.2 then (some (.inr (.inl s.1))) else (zob (zin s.2 12) ((fX9_hasBit ((gi mm 28 0 (zn s.2))) v1 mm).bind (fun x2 => if x2 = 0 then (some (.inl (s.1, (s.2 + 1)))) else (some (.inl ((s.1 + 1), (s.2 + 1)))))))
def fX3_placesOf_L70 (v4 : Int32) (mm : zM) (s : (Int32 × Int32)) : Option ((Int32 × Int32) ⊕ (Int32 ⊕ Empty)) :=
  if v4 < s.2 then (some (.inr (.inl s.1))) else (some (.inl ((s.1 ||| ((1 <<< (s.2 &&& 31)))), (s.2 + 1))))
def fX3_placesOf (v1 : Int32) (mm : zM) : Option Int32 :=
  (fX3_hasNone mm).bind (fun x1 => if x1 = 0 then ((zloop (fX3_placesOf_L13 v1 mm) zF (0, 0)).bind (fun o10 => zcase o10 (fun y3 => zob (zin v1 12) ((fJ6_bitCount ((gi mm 28 0 (zn v1))) mm).bind (fun x5 => (fJ6_bitCount ((gi mm 3 0 2)) mm).bind (fun x6 => (zloop (fX3_placesOf_L70 ((((x6 - 1)) - y3)) mm) zF (0, x5)).bind (fun o9 => zcase o9 (fun y7 => some y7) (fun r8 => r8.elim)))))) (fun r4 => r4.elim))) else (some 0))
theorem wX3_placesOf_L13 {E : zE} {d : Nat} (hd : 2 ≤ d) {Q : Option zV → zM → Prop} {v1 : Int32} {mm : zM} {n : Nat} {s : (Int32 × Int32)} {o : Int32 ⊕ Empty} (h : zloop (fX3_placesOf_L13 v1 mm) n s = some o) (he : ∀ y : Int32, o = .inl y → V E RX3 cX3_placesOf 7 (some .int) d Q 41 [some (zK 3 0), some (zI v1), some (zI y), none, none, none, none] [] mm) : V E RX3 cX3_placesOf 7 (some .int) d Q 13 [some (zK 3 0), some (zI v1), some (zI s.1), some (zI s.2), none, none, none] [] mm := by
  induction n generalizing s with
  | zero => exact (zloop_0 h).elim
  | succ n ih =>
    obtain ⟨o1, h1, hc1, he1⟩ := zloop_s h
    have kc : ∀ s' : (Int32 × Int32), o1 = .inl s' → V E RX3 cX3_placesOf 7 (some .int) d Q 13 [some (zK 3 0), some (zI v1), some (zI s'.1), some (zI s'.2), none, none, none] [] mm := fun s' e => ih (hc1 s' e)
    have ke : ∀ y : Int32, o1 = .inr (.inl y) → V E RX3 cX3_placesOf 7 (some .int) d Q 41 [some (zK 3 0), some (zI v1), some (zI y), none, none, none, none] [] mm := fun y e => he y (he1 _ e)
    clear h hc1 he1 ih
    have h := h1
    clear h1
    unfold fX3_placesOf_L13 at h
    refine V_iload_n 14 rfl 3 dX3_placesOf_13 rfl rfl ?_
    refine V_bipush 16 rfl (v := 12) dX3_placesOf_14 (by decide) ?_
    refine V_icmp_ge 19 41 rfl dX3_placesOf_16 (by decide) (fun c => ?_) (fun c => ?_)
    · have h := zpos c h
      exact V_w (zsub_s (zsub_s (zsub_s (zsub_n (zsub_s (zsub_s (zsub_s zsub_0))))))) (ke s.1 (zinj h))
    · have h := zneg c h
      refine V_aload_n 20 rfl 0 dX3_placesOf_19 rfl rfl ?_
      refine V_getr 23 rfl 28 0 dX3_placesOf_20 fl_X3_9 rfl rfl rfl ?_
      refine V_iload_n 24 rfl 3 dX3_placesOf_23 rfl rfl ?_
      obtain ⟨hi, h⟩ := zobd h
      refine V_iald 25 rfl dX3_placesOf_24 rfl hi ?_
      refine V_iload_n 26 rfl 1 dX3_placesOf_25 rfl rfl ?_
      obtain ⟨x2, h1, h⟩ := zbd h
      refine V_cN 29 rfl 0 [zI (gi mm 28 0 (zn s.2)), zI v1] [] dX3_placesOf_26 cn_X3_33 (ctX9_hasBit (Nat.le_refl 0) h1) (Nat.le_trans (by decide) hd) rfl rfl (Nat.le_of_ble_eq_true rfl) zoki rfl ?_
      refine V_if_eq 32 35 rfl dX3_placesOf_29 (by decide) (fun c => ?_) (fun c => ?_)
      · have h := zpos c h
        refine V_iinc 38 rfl (s.2 + 1) (L' := [some (zK 3 0), some (zI v1), some (zI s.1), some (zI (s.2 + 1)), none, none, none]) dX3_placesOf_35 rfl rfl (by decide) rfl ?_
        refine V_goto 13 dX3_placesOf_38 (by decide) ?_
        exact kc (s.1, (s.2 + 1)) (zinj h)
      · have h := zneg c h
        refine V_iinc 35 rfl (s.1 + 1) (L' := [some (zK 3 0), some (zI v1), some (zI (s.1 + 1)), some (zI s.2), none, none, none]) dX3_placesOf_32 rfl rfl (by decide) rfl ?_
        refine V_iinc 38 rfl (s.2 + 1) (L' := [some (zK 3 0), some (zI v1), some (zI (s.1 + 1)), some (zI (s.2 + 1)), none, none, none]) dX3_placesOf_35 rfl rfl (by decide) rfl ?_
        refine V_goto 13 dX3_placesOf_38 (by decide) ?_
        exact kc ((s.1 + 1), (s.2 + 1)) (zinj h)
theorem wX3_placesOf_L70 {E : zE} {d : Nat} (hd : 2 ≤ d) {Q : Option zV → zM → Prop} {v4 : Int32} {mm : zM} {n : Nat} {s : (Int32 × Int32)} {o : Int32 ⊕ Empty} (h : zloop (fX3_placesOf_L70 v4 mm) n s = some o) (he : ∀ y : Int32, o = .inl y → V E RX3 cX3_placesOf 7 (some .int) d Q 92 [none, none, none, none, none, some (zI y), none] [] mm) : V E RX3 cX3_placesOf 7 (some .int) d Q 70 [none, none, none, none, some (zI v4), some (zI s.1), some (zI s.2)] [] mm := by
  induction n generalizing s with
  | zero => exact (zloop_0 h).elim
  | succ n ih =>
    obtain ⟨o1, h1, hc1, he1⟩ := zloop_s h
    have kc : ∀ s' : (Int32 × Int32), o1 = .inl s' → V E RX3 cX3_placesOf 7 (some .int) d Q 70 [none, none, none, none, some (zI v4), some (zI s'.1), some (zI s'.2)] [] mm := fun s' e => ih (hc1 s' e)
    have ke : ∀ y : Int32, o1 = .inr (.inl y) → V E RX3 cX3_placesOf 7 (some .int) d Q 92 [none, none, none, none, none, some (zI y), none] [] mm := fun y e => he y (he1 _ e)
    clear h hc1 he1 ih
    have h := h1
    clear h1
    unfold fX3_placesOf_L70 at h
    refine V_iload 72 rfl dX3_placesOf_70 rfl ?_
    refine V_iload 74 rfl dX3_placesOf_72 rfl ?_
    refine V_icmp_gt 77 92 rfl dX3_placesOf_74 (by decide) (fun c => ?_) (fun c => ?_)
    · have h := zpos c h
      exact V_w (zsub_s (zsub_s (zsub_s (zsub_s (zsub_n (zsub_s (zsub_n zsub_0))))))) (ke s.1 (zinj h))
    · have h := zneg c h
      refine V_iload 79 rfl dX3_placesOf_77 rfl ?_
      refine V_iconst 80 rfl (v := 1) dX3_placesOf_79 (by decide) ?_
      refine V_iload 82 rfl dX3_placesOf_80 rfl ?_
      refine V_ishl 83 rfl dX3_placesOf_82 ?_
      refine V_ior 84 rfl dX3_placesOf_83 ?_
      refine V_istore 86 rfl (L' := [none, none, none, none, some (zI v4), some (zI (s.1 ||| ((1 <<< (s.2 &&& 31))))), some (zI s.2)]) dX3_placesOf_84 (by decide) rfl ?_
      refine V_iinc 89 rfl (s.2 + 1) (L' := [none, none, none, none, some (zI v4), some (zI (s.1 ||| ((1 <<< (s.2 &&& 31))))), some (zI (s.2 + 1))]) dX3_placesOf_86 rfl rfl (by decide) rfl ?_
      refine V_goto 70 dX3_placesOf_89 (by decide) ?_
      exact kc ((s.1 ||| ((1 <<< (s.2 &&& 31)))), (s.2 + 1)) (zinj h)
theorem wX3_placesOf {E : zE} {d : Nat} (hd : 2 ≤ d) {Q : Option zV → zM → Prop} {v1 : Int32} {mm : zM} {o : Int32} (h : fX3_placesOf v1 mm = some o) (hQ : ∀ r, o = r → Q (some (zI r)) mm) : V E RX3 cX3_placesOf 7 (some .int) d Q 0 [some (zK 3 0), some (zI v1), none, none, none, none, none] [] mm := by
  unfold fX3_placesOf at h
  refine V_aload_n 1 rfl 0 dX3_placesOf_0 rfl rfl ?_
  obtain ⟨x1, h1, h⟩ := zbd h
  refine V_cV 4 rfl 1 [] [] dX3_placesOf_1 cv_X3_60 (ctX3_hasNone (Nat.le_refl 1) h1) (Nat.le_trans (by decide) hd) rfl rfl (Nat.le_of_ble_eq_true rfl) zoki rfl ?_
  refine V_if_eq 7 9 rfl dX3_placesOf_4 (by decide) (fun c => ?_) (fun c => ?_)
  · have h := zpos c h
    refine V_iconst 10 rfl (v := 0) dX3_placesOf_9 (by decide) ?_
    refine V_istore_n 11 rfl 2 (L' := [some (zK 3 0), some (zI v1), some (zI 0), none, none, none, none]) dX3_placesOf_10 rfl (by decide) rfl ?_
    refine V_iconst 12 rfl (v := 0) dX3_placesOf_11 (by decide) ?_
    refine V_istore_n 13 rfl 3 (L' := [some (zK 3 0), some (zI v1), some (zI 0), some (zI 0), none, none, none]) dX3_placesOf_12 rfl (by decide) rfl ?_
    obtain ⟨o10, h1, h⟩ := zbd h
    refine wX3_placesOf_L13 hd h1 (fun y3 e => ?_)
    have h := zcl_ e h
    refine V_aload_n 42 rfl 0 dX3_placesOf_41 rfl rfl ?_
    refine V_getr 45 rfl 28 0 dX3_placesOf_42 fl_X3_9 rfl rfl rfl ?_
    refine V_iload_n 46 rfl 1 dX3_placesOf_45 rfl rfl ?_
    obtain ⟨hi, h⟩ := zobd h
    refine V_iald 47 rfl dX3_placesOf_46 rfl hi ?_
    obtain ⟨x5, h1, h⟩ := zbd h
    refine V_cS 50 rfl 0 [zI (gi mm 28 0 (zn v1))] [] dX3_placesOf_47 cs_X3_71 (ctJ6_bitCount (Nat.le_refl 0) h1) (Nat.le_trans (by decide) hd) rfl rfl (Nat.le_of_ble_eq_true rfl) zoki rfl ?_
    refine V_istore_n 51 rfl 3 (L' := [some (zK 3 0), some (zI v1), some (zI y3), some (zI x5), none, none, none]) dX3_placesOf_50 rfl (by decide) rfl ?_
    refine V_aload_n 52 rfl 0 dX3_placesOf_51 rfl rfl ?_
    refine V_geti 55 rfl dX3_placesOf_52 fl_X3_18 rfl ?_
    obtain ⟨x6, h1, h⟩ := zbd h
    refine V_cS 58 rfl 0 [zI (gi mm 3 0 2)] [] dX3_placesOf_55 cs_X3_71 (ctJ6_bitCount (Nat.le_refl 0) h1) (Nat.le_trans (by decide) hd) rfl rfl (Nat.le_of_ble_eq_true rfl) zoki rfl ?_
    refine V_iconst 59 rfl (v := 1) dX3_placesOf_58 (by decide) ?_
    refine V_isub 60 rfl dX3_placesOf_59 ?_
    refine V_iload_n 61 rfl 2 dX3_placesOf_60 rfl rfl ?_
    refine V_isub 62 rfl dX3_placesOf_61 ?_
    refine V_istore 64 rfl (L' := [some (zK 3 0), some (zI v1), some (zI y3), some (zI x5), some (zI (((x6 - 1)) - y3)), none, none]) dX3_placesOf_62 (by decide) rfl ?_
    refine V_iconst 65 rfl (v := 0) dX3_placesOf_64 (by decide) ?_
    refine V_istore 67 rfl (L' := [some (zK 3 0), some (zI v1), some (zI y3), some (zI x5), some (zI (((x6 - 1)) - y3)), some (zI 0), none]) dX3_placesOf_65 (by decide) rfl ?_
    refine V_iload_n 68 rfl 3 dX3_placesOf_67 rfl rfl ?_
    refine V_istore 70 rfl (L' := [some (zK 3 0), some (zI v1), some (zI y3), some (zI x5), some (zI (((x6 - 1)) - y3)), some (zI 0), some (zI x5)]) dX3_placesOf_68 (by decide) rfl ?_
    obtain ⟨o9, h1, h⟩ := zbd h
    refine V_w (zsub_n (zsub_n (zsub_n (zsub_n (zsub_s (zsub_s (zsub_s zsub_0))))))) (wX3_placesOf_L70 hd h1 (fun y7 e => ?_))
    have h := zcl_ e h
    refine V_iload 94 rfl dX3_placesOf_92 rfl ?_
    exact V_iret dX3_placesOf_94 rfl (hQ y7 (zinj h))
  · have h := zneg c h
    refine V_iconst 8 rfl (v := 0) dX3_placesOf_7 (by decide) ?_
    exact V_iret dX3_placesOf_8 rfl (hQ 0 (zinj h))
theorem ctX3_placesOf {E : zE} {d : Nat} (hd : 2 ≤ d) {v1 : Int32} {mm : zM} {o : Int32} (h : fX3_placesOf v1 mm = some o) : zOC E yX3_placesOf cX3_placesOf 7 (some .int) d [zK 3 0, zI v1] mm (some (zI o)) mm :=
  zCT_of (by decide) (Nat.le_of_ble_eq_true rfl) (zk_k (zk_i zk_0)) rfl (wX3_placesOf hd h (fun r e => ⟨by rw [e], rfl⟩))
def fX9_place (v1 : Int32) (v2 : Int32) (mm : zM) : Option (Int32 × zM) :=
  (gr mm 9 2).bind (fun j1 => (fX8_isType j1 v1 mm).bind (fun x2 => if x2 = 0 then (some (((-1), mm))) else ((gr mm 9 2).bind (fun j3 => (fX8_isType j3 v2 mm).bind (fun x4 => if x4 = 0 then (some (((-1), mm))) else ((fX9_settle mm).bind (fun x5 => zob (zin v1 12) ((fX9_hasBit ((gi x5 22 0 (zn v1))) v2 x5).bind (fun x6 => if x6 = 0 then (some (((-1), x5))) else ((gr x5 9 2).bind (fun j7 => zob (zin v1 12) ((fX3_prepare j7 ((gi x5 22 0 (zn v1))) x5).bind (fun x8 => (fX3_placesOf v2 x8).bind (fun x9 => some ((x9, x8))))))))))))))))
theorem wX9_place {E : zE} {d : Nat} (hd : 5 ≤ d) {Q : Option zV → zM → Prop} {v1 : Int32} {v2 : Int32} {mm : zM} {o : (Int32 × zM)} (h : fX9_place v1 v2 mm = some o) (hQ : ∀ r, o = r → Q (some (zI r.1)) r.2) : V E RX9 cX9_place 3 (some .int) d Q 0 [some (zK 9 0), some (zI v1), some (zI v2)] [] mm := by
  unfold fX9_place at h
  refine V_aload_n 1 rfl 0 dX9_place_0 rfl rfl ?_
  obtain ⟨j1, hj, h⟩ := zbd h
  refine V_getm 4 rfl 8 dX9_place_1 fl_X9_16 rfl rfl hj ?_
  refine V_iload_n 5 rfl 1 dX9_place_4 rfl rfl ?_
  obtain ⟨x2, h1, h⟩ := zbd h
  refine V_cV 8 rfl 1 [zI v1] [] dX9_place_5 cv_X9_94 (ctX8_isType (Nat.le_refl 1) h1) (Nat.le_trans (by decide) hd) rfl rfl (Nat.le_of_ble_eq_true rfl) zoki rfl ?_
  refine V_if_eq 11 22 rfl dX9_place_8 (by decide) (fun c => ?_) (fun c => ?_)
  · have h := zpos c h
    refine V_iconst 23 rfl (v := (-1)) dX9_place_22 (by decide) ?_
    exact V_iret dX9_place_23 rfl (hQ (((-1), mm)) (zinj h))
  · have h := zneg c h
    refine V_aload_n 12 rfl 0 dX9_place_11 rfl rfl ?_
    obtain ⟨j3, hj, h⟩ := zbd h
    refine V_getm 15 rfl 8 dX9_place_12 fl_X9_16 rfl rfl hj ?_
    refine V_iload_n 16 rfl 2 dX9_place_15 rfl rfl ?_
    obtain ⟨x4, h1, h⟩ := zbd h
    refine V_cV 19 rfl 1 [zI v2] [] dX9_place_16 cv_X9_94 (ctX8_isType (Nat.le_refl 1) h1) (Nat.le_trans (by decide) hd) rfl rfl (Nat.le_of_ble_eq_true rfl) zoki rfl ?_
    refine V_if_ne 22 24 rfl dX9_place_19 (by decide) (fun c => ?_) (fun c => ?_)
    · have h := zneg c h
      refine V_aload_n 25 rfl 0 dX9_place_24 rfl rfl ?_
      obtain ⟨x5, h1, h⟩ := zbd h
      refine V_cV 28 rfl 4 [] [] dX9_place_25 cv_X9_201 (ctX9_settle (Nat.le_refl 4) h1) (Nat.le_trans (by decide) hd) rfl rfl (Nat.le_of_ble_eq_true rfl) zokn rfl ?_
      refine V_aload_n 29 rfl 0 dX9_place_28 rfl rfl ?_
      refine V_getr 32 rfl 2 0 dX9_place_29 fl_X9_51 rfl rfl rfl ?_
      refine V_getr 35 rfl 22 0 dX9_place_32 fl_X9_251 rfl rfl rfl ?_
      refine V_iload_n 36 rfl 1 dX9_place_35 rfl rfl ?_
      obtain ⟨hi, h⟩ := zobd h
      refine V_iald 37 rfl dX9_place_36 rfl hi ?_
      refine V_iload_n 38 rfl 2 dX9_place_37 rfl rfl ?_
      obtain ⟨x6, h1, h⟩ := zbd h
      refine V_cS 41 rfl 0 [zI (gi x5 22 0 (zn v1)), zI v2] [] dX9_place_38 cs_X9_197 (ctX9_hasBit (Nat.le_refl 0) h1) (Nat.le_trans (by decide) hd) rfl rfl (Nat.le_of_ble_eq_true rfl) zoki rfl ?_
      refine V_if_ne 44 46 rfl dX9_place_41 (by decide) (fun c => ?_) (fun c => ?_)
      · have h := zneg c h
        refine V_aload_n 47 rfl 0 dX9_place_46 rfl rfl ?_
        refine V_getr 50 rfl 3 0 dX9_place_47 fl_X9_58 rfl rfl rfl ?_
        refine V_aload_n 51 rfl 0 dX9_place_50 rfl rfl ?_
        obtain ⟨j7, hj, h⟩ := zbd h
        refine V_getm 54 rfl 8 dX9_place_51 fl_X9_16 rfl rfl hj ?_
        refine V_aload_n 55 rfl 0 dX9_place_54 rfl rfl ?_
        refine V_getr 58 rfl 2 0 dX9_place_55 fl_X9_51 rfl rfl rfl ?_
        refine V_getr 61 rfl 22 0 dX9_place_58 fl_X9_251 rfl rfl rfl ?_
        refine V_iload_n 62 rfl 1 dX9_place_61 rfl rfl ?_
        obtain ⟨hi, h⟩ := zobd h
        refine V_iald 63 rfl dX9_place_62 rfl hi ?_
        obtain ⟨x8, h1, h⟩ := zbd h
        refine V_cV 66 rfl 2 [zK 8 j7, zI (gi x5 22 0 (zn v1))] [] dX9_place_63 cv_X9_256 (ctX3_prepare (Nat.le_refl 2) h1) (Nat.le_trans (by decide) hd) rfl rfl (Nat.le_of_ble_eq_true rfl) zokn rfl ?_
        refine V_aload_n 67 rfl 0 dX9_place_66 rfl rfl ?_
        refine V_getr 70 rfl 3 0 dX9_place_67 fl_X9_58 rfl rfl rfl ?_
        refine V_iload_n 71 rfl 2 dX9_place_70 rfl rfl ?_
        obtain ⟨x9, h1, h⟩ := zbd h
        refine V_cV 74 rfl 2 [zI v2] [] dX9_place_71 cv_X9_267 (ctX3_placesOf (Nat.le_refl 2) h1) (Nat.le_trans (by decide) hd) rfl rfl (Nat.le_of_ble_eq_true rfl) zoki rfl ?_
        exact V_iret dX9_place_74 rfl (hQ ((x9, x8)) (zinj h))
      · have h := zpos c h
        refine V_iconst 45 rfl (v := (-1)) dX9_place_44 (by decide) ?_
        exact V_iret dX9_place_45 rfl (hQ (((-1), x5)) (zinj h))
    · have h := zpos c h
      refine V_iconst 23 rfl (v := (-1)) dX9_place_22 (by decide) ?_
      exact V_iret dX9_place_23 rfl (hQ (((-1), mm)) (zinj h))
theorem ctX9_place {E : zE} {d : Nat} (hd : 5 ≤ d) {v1 : Int32} {v2 : Int32} {mm : zM} {o : (Int32 × zM)} (h : fX9_place v1 v2 mm = some o) : zOC E yX9_place cX9_place 3 (some .int) d [zK 9 0, zI v1, zI v2] mm (some (zI o.1)) o.2 :=
  zCT_of (by decide) (Nat.le_of_ble_eq_true rfl) (zk_k (zk_i (zk_i zk_0))) rfl (wX9_place hd h (fun r e => ⟨by rw [e], by rw [e]⟩))
def fX6_stop (v1 : Int32) (v2 : Int32) (mm : zM) : Option (Int32 × zM) :=
  some ((0, (wi ((wi mm 6 0 4 v1)) 6 0 9 v2)))
theorem wX6_stop {E : zE} {d : Nat} (hd : 0 ≤ d) {Q : Option zV → zM → Prop} {v1 : Int32} {v2 : Int32} {mm : zM} {o : (Int32 × zM)} (h : fX6_stop v1 v2 mm = some o) (hQ : ∀ r, o = r → Q (some (zI r.1)) r.2) : V E RX6 cX6_stop 3 (some .int) d Q 0 [some (zK 6 0), some (zI v1), some (zI v2)] [] mm := by
  unfold fX6_stop at h
  refine V_aload_n 1 rfl 0 dX6_stop_0 rfl rfl ?_
  refine V_iload_n 2 rfl 1 dX6_stop_1 rfl rfl ?_
  refine V_puti 5 rfl dX6_stop_2 fw_X6_27 rfl rfl rfl ?_
  refine V_aload_n 6 rfl 0 dX6_stop_5 rfl rfl ?_
  refine V_iload_n 7 rfl 2 dX6_stop_6 rfl rfl ?_
  refine V_puti 10 rfl dX6_stop_7 fw_X6_39 rfl rfl rfl ?_
  refine V_iconst 11 rfl (v := 0) dX6_stop_10 (by decide) ?_
  exact V_iret dX6_stop_11 rfl (hQ ((0, (wi ((wi mm 6 0 4 v1)) 6 0 9 v2))) (zinj h))
theorem ctX6_stop {E : zE} {d : Nat} (hd : 0 ≤ d) {v1 : Int32} {v2 : Int32} {mm : zM} {o : (Int32 × zM)} (h : fX6_stop v1 v2 mm = some o) : zOC E yX6_stop cX6_stop 3 (some .int) d [zK 6 0, zI v1, zI v2] mm (some (zI o.1)) o.2 :=
  zCT_of (by decide) (Nat.le_of_ble_eq_true rfl) (zk_k (zk_i (zk_i zk_0))) rfl (wX6_stop hd h (fun r e => ⟨by rw [e], by rw [e]⟩))
def fX6_addTerms_L82 (rc : Int32 → Int32 → Int32 → zM → Option (Int32 × zM)) (v1 : Int32) (v2 : Int32) (v3 : Int32) (v6 : Nat) (v7 : Int32) (s : (Int32 × Int32 × zM)) : Option ((Int32 × Int32 × zM) ⊕ ((Int32 × zM) ⊕ Empty)) :=
  zob (zin v7 26) (if (gi s.2.2 32 v6 (zn v7)) ≤ s.2.1 then (some (.inr (.inl (s.1, s.2.2)))) else (if (gi s.2.2 6 0 4) = 0 then ((fX7_termAt v6 v7 s.2.1 s.2.2).bind (fun x3 => if 1000 ≤ x3 then (if x3 = 1000 then ((rc v1 ((v2 + 1)) ((v3 + 1)) s.2.2).bind (fun x5 => some (.inl ((s.1 + x5.1), (s.2.1 + 1), x5.2)))) else ((rc ((x3 - 1001)) 0 ((v3 + 1)) s.2.2).bind (fun x4 => some (.inl ((s.1 + x4.1), (s.2.1 + 1), x4.2))))) else (some (.inl ((s.1 + x3), (s.2.1 + 1), s.2.2))))) else (some (.inr (.inl (s.1, s.2.2))))))
def fX6_addTerms_J76 (rc : Int32 → Int32 → Int32 → zM → Option (Int32 × zM)) (v1 : Int32) (v2 : Int32) (v3 : Int32) (v6 : Nat) (v7 : Int32) (mm : zM) : Option (Int32 × zM) :=
  (zloop (fX6_addTerms_L82 rc v1 v2 v3 v6 v7) zF (0, 0, mm)).bind (fun o8 => zcase o8 (fun y6 => some ((y6.1, y6.2))) (fun r7 => r7.elim))
def fX6_addTerms (rc : Int32 → Int32 → Int32 → zM → Option (Int32 × zM)) (v1 : Int32) (v2 : Int32) (v3 : Int32) (mm : zM) : Option (Int32 × zM) :=
  zob (gr mm 6 2 == some 0) (zob (zin ((gi mm 6 0 3)) 12) (zob (zin v2 12) (zob (gr mm 6 1 == some 0) ((fX0_firstSource ((gi mm 17 (zn ((gi mm 6 0 3))) (zn v2))) v1 mm).bind (fun x1 => (gr mm 6 0).bind (fun j2 => zob (zin ((x1 / 26)) 12) (if v3 = 0 then (fX6_addTerms_J76 rc v1 v2 v3 ((12 * j2 + zn ((x1 / 26)))) ((x1 - x1 / 26 * 26)) ((wi ((wi mm 6 0 10 ((((gi mm 6 0 10)) ||| ((1 <<< (((x1 / 26)) &&& 31))))))) 6 0 8 ((gi mm 17 (zn ((gi mm 6 0 3))) (zn v2)))))) else (fX6_addTerms_J76 rc v1 v2 v3 ((12 * j2 + zn ((x1 / 26)))) ((x1 - x1 / 26 * 26)) ((wi mm 6 0 10 ((((gi mm 6 0 10)) ||| ((1 <<< (((x1 / 26)) &&& 31)))))))))))))))
theorem wX6_addTerms_L82 {E : zE} {d : Nat} (hd : 1 ≤ d) {rc : Int32 → Int32 → Int32 → zM → Option (Int32 × zM)} {dr : Nat} (hrc : ∀ (a0 a1 a2 : Int32) (mm : zM) (o : Int32 × zM), rc a0 a1 a2 mm = some o → zOC E yX6_lookFor cX6_lookFor 7 (some .int) dr [zK 6 0, zI a0, zI a1, zI a2] mm (some (zI o.1)) o.2) (hdr : dr + 1 ≤ d) {Q : Option zV → zM → Prop} {v1 : Int32} {v2 : Int32} {v3 : Int32} {v6 : Nat} {v7 : Int32} {n : Nat} {s : (Int32 × Int32 × zM)} {o : (Int32 × zM) ⊕ Empty} (h : zloop (fX6_addTerms_L82 rc v1 v2 v3 v6 v7) n s = some o) (he : ∀ y : (Int32 × zM), o = .inl y → V E RX6 cX6_addTerms 11 (some .int) d Q 183 [none, none, none, none, none, none, none, none, some (zI y.1), none, none] [] y.2) : V E RX6 cX6_addTerms 11 (some .int) d Q 82 [some (zK 6 0), some (zI v1), some (zI v2), some (zI v3), none, none, some (zK 7 v6), some (zI v7), some (zI s.1), some (zI s.2.1), none] [] s.2.2 := by
  induction n generalizing s with
  | zero => exact (zloop_0 h).elim
  | succ n ih =>
    obtain ⟨o1, h1, hc1, he1⟩ := zloop_s h
    have kc : ∀ s' : (Int32 × Int32 × zM), o1 = .inl s' → V E RX6 cX6_addTerms 11 (some .int) d Q 82 [some (zK 6 0), some (zI v1), some (zI v2), some (zI v3), none, none, some (zK 7 v6), some (zI v7), some (zI s'.1), some (zI s'.2.1), none] [] s'.2.2 := fun s' e => ih (hc1 s' e)
    have ke : ∀ y : (Int32 × zM), o1 = .inr (.inl y) → V E RX6 cX6_addTerms 11 (some .int) d Q 183 [none, none, none, none, none, none, none, none, some (zI y.1), none, none] [] y.2 := fun y e => he y (he1 _ e)
    clear h hc1 he1 ih
    have h := h1
    clear h1
    unfold fX6_addTerms_L82 at h
    refine V_iload 84 rfl dX6_addTerms_82 rfl ?_
    refine V_aload 86 rfl dX6_addTerms_84 rfl ?_
    refine V_getr 89 rfl 32 v6 dX6_addTerms_86 fl_X6_87 rfl rfl rfl ?_
    refine V_iload 91 rfl dX6_addTerms_89 rfl ?_
    obtain ⟨hi, h⟩ := zobd h
    refine V_iald 92 rfl dX6_addTerms_91 rfl hi ?_
    refine V_icmp_ge 95 183 rfl dX6_addTerms_92 (by decide) (fun c => ?_) (fun c => ?_)
    · have h := zpos c h
      exact V_w (zsub_n (zsub_n (zsub_n (zsub_n (zsub_s (zsub_s (zsub_n (zsub_n (zsub_s (zsub_n (zsub_s zsub_0))))))))))) (ke (s.1, s.2.2) (zinj h))
    · have h := zneg c h
      refine V_aload_n 96 rfl 0 dX6_addTerms_95 rfl rfl ?_
      refine V_geti 99 rfl dX6_addTerms_96 fl_X6_27 rfl ?_
      refine V_if_ne 102 183 rfl dX6_addTerms_99 (by decide) (fun c => ?_) (fun c => ?_)
      · have h := zneg c h
        exact V_w (zsub_n (zsub_n (zsub_n (zsub_n (zsub_s (zsub_s (zsub_n (zsub_n (zsub_s (zsub_n (zsub_s zsub_0))))))))))) (ke (s.1, s.2.2) (zinj h))
      · have h := zpos c h
        refine V_aload 104 rfl dX6_addTerms_102 rfl ?_
        refine V_iload 106 rfl dX6_addTerms_104 rfl ?_
        refine V_iload 108 rfl dX6_addTerms_106 rfl ?_
        obtain ⟨x3, h1, h⟩ := zbd h
        refine V_cV 111 rfl 0 [zI v7, zI s.2.1] [] dX6_addTerms_108 cv_X6_92 (ctX7_termAt (Nat.le_refl 0) h1) (Nat.le_trans (by decide) hd) rfl rfl (Nat.le_of_ble_eq_true rfl) zoki rfl ?_
        refine V_istore 113 rfl (L' := [some (zK 6 0), some (zI v1), some (zI v2), some (zI v3), none, none, some (zK 7 v6), some (zI v7), some (zI s.1), some (zI s.2.1), some (zI x3)]) dX6_addTerms_111 (by decide) rfl ?_
        refine V_iload 115 rfl dX6_addTerms_113 rfl ?_
        refine V_sipush 118 rfl (v := 1000) dX6_addTerms_115 (by decide) ?_
        refine V_icmp_ge 121 131 rfl dX6_addTerms_118 (by decide) (fun c => ?_) (fun c => ?_)
        · have h := zpos c h
          refine V_iload 133 rfl dX6_addTerms_131 rfl ?_
          refine V_sipush 136 rfl (v := 1000) dX6_addTerms_133 (by decide) ?_
          refine V_icmp_ne 139 158 rfl dX6_addTerms_136 (by decide) (fun c => ?_) (fun c => ?_)
          · have h := zneg c h
            refine V_iload 160 rfl dX6_addTerms_158 rfl ?_
            refine V_aload_n 161 rfl 0 dX6_addTerms_160 rfl rfl ?_
            refine V_iload 163 rfl dX6_addTerms_161 rfl ?_
            refine V_sipush 166 rfl (v := 1001) dX6_addTerms_163 (by decide) ?_
            refine V_isub 167 rfl dX6_addTerms_166 ?_
            refine V_iconst 168 rfl (v := 0) dX6_addTerms_167 (by decide) ?_
            refine V_iload_n 169 rfl 3 dX6_addTerms_168 rfl rfl ?_
            refine V_iconst 170 rfl (v := 1) dX6_addTerms_169 (by decide) ?_
            refine V_iadd 171 rfl dX6_addTerms_170 ?_
            obtain ⟨x4, h1, h⟩ := zbd h
            refine V_cV 174 rfl dr [zI (x3 - 1001), zI 0, zI (v3 + 1)] [zI s.1] dX6_addTerms_171 cv_X6_54 (hrc _ _ _ _ _ h1) hdr rfl rfl (Nat.le_of_ble_eq_true rfl) zoki rfl ?_
            refine V_iadd 175 rfl dX6_addTerms_174 ?_
            refine V_istore 177 rfl (L' := [some (zK 6 0), some (zI v1), some (zI v2), some (zI v3), none, none, some (zK 7 v6), some (zI v7), some (zI (s.1 + x4.1)), some (zI s.2.1), some (zI x3)]) dX6_addTerms_175 (by decide) rfl ?_
            refine V_iinc 180 rfl (s.2.1 + 1) (L' := [some (zK 6 0), some (zI v1), some (zI v2), some (zI v3), none, none, some (zK 7 v6), some (zI v7), some (zI (s.1 + x4.1)), some (zI (s.2.1 + 1)), some (zI x3)]) dX6_addTerms_177 rfl rfl (by decide) rfl ?_
            refine V_goto 82 dX6_addTerms_180 (by decide) ?_
            exact V_w (zsub_s (zsub_s (zsub_s (zsub_s (zsub_s (zsub_s (zsub_s (zsub_s (zsub_s (zsub_s (zsub_n zsub_0))))))))))) (kc ((s.1 + x4.1), (s.2.1 + 1), x4.2) (zinj h))
          · have h := zpos c h
            refine V_iload 141 rfl dX6_addTerms_139 rfl ?_
            refine V_aload_n 142 rfl 0 dX6_addTerms_141 rfl rfl ?_
            refine V_iload_n 143 rfl 1 dX6_addTerms_142 rfl rfl ?_
            refine V_iload_n 144 rfl 2 dX6_addTerms_143 rfl rfl ?_
            refine V_iconst 145 rfl (v := 1) dX6_addTerms_144 (by decide) ?_
            refine V_iadd 146 rfl dX6_addTerms_145 ?_
            refine V_iload_n 147 rfl 3 dX6_addTerms_146 rfl rfl ?_
            refine V_iconst 148 rfl (v := 1) dX6_addTerms_147 (by decide) ?_
            refine V_iadd 149 rfl dX6_addTerms_148 ?_
            obtain ⟨x5, h1, h⟩ := zbd h
            refine V_cV 152 rfl dr [zI v1, zI (v2 + 1), zI (v3 + 1)] [zI s.1] dX6_addTerms_149 cv_X6_54 (hrc _ _ _ _ _ h1) hdr rfl rfl (Nat.le_of_ble_eq_true rfl) zoki rfl ?_
            refine V_iadd 153 rfl dX6_addTerms_152 ?_
            refine V_istore 155 rfl (L' := [some (zK 6 0), some (zI v1), some (zI v2), some (zI v3), none, none, some (zK 7 v6), some (zI v7), some (zI (s.1 + x5.1)), some (zI s.2.1), some (zI x3)]) dX6_addTerms_153 (by decide) rfl ?_
            refine V_goto 177 dX6_addTerms_155 (by decide) ?_
            refine V_iinc 180 rfl (s.2.1 + 1) (L' := [some (zK 6 0), some (zI v1), some (zI v2), some (zI v3), none, none, some (zK 7 v6), some (zI v7), some (zI (s.1 + x5.1)), some (zI (s.2.1 + 1)), some (zI x3)]) dX6_addTerms_177 rfl rfl (by decide) rfl ?_
            refine V_goto 82 dX6_addTerms_180 (by decide) ?_
            exact V_w (zsub_s (zsub_s (zsub_s (zsub_s (zsub_s (zsub_s (zsub_s (zsub_s (zsub_s (zsub_s (zsub_n zsub_0))))))))))) (kc ((s.1 + x5.1), (s.2.1 + 1), x5.2) (zinj h))
        · have h := zneg c h
          refine V_iload 123 rfl dX6_addTerms_121 rfl ?_
          refine V_iload 125 rfl dX6_addTerms_123 rfl ?_
          refine V_iadd 126 rfl dX6_addTerms_125 ?_
          refine V_istore 128 rfl (L' := [some (zK 6 0), some (zI v1), some (zI v2), some (zI v3), none, none, some (zK 7 v6), some (zI v7), some (zI (s.1 + x3)), some (zI s.2.1), some (zI x3)]) dX6_addTerms_126 (by decide) rfl ?_
          refine V_goto 177 dX6_addTerms_128 (by decide) ?_
          refine V_iinc 180 rfl (s.2.1 + 1) (L' := [some (zK 6 0), some (zI v1), some (zI v2), some (zI v3), none, none, some (zK 7 v6), some (zI v7), some (zI (s.1 + x3)), some (zI (s.2.1 + 1)), some (zI x3)]) dX6_addTerms_177 rfl rfl (by decide) rfl ?_
          refine V_goto 82 dX6_addTerms_180 (by decide) ?_
          exact V_w (zsub_s (zsub_s (zsub_s (zsub_s (zsub_s (zsub_s (zsub_s (zsub_s (zsub_s (zsub_s (zsub_n zsub_0))))))))))) (kc ((s.1 + x3), (s.2.1 + 1), s.2.2) (zinj h))
theorem wX6_addTerms_J76 {E : zE} {d : Nat} (hd : 1 ≤ d) {rc : Int32 → Int32 → Int32 → zM → Option (Int32 × zM)} {dr : Nat} (hrc : ∀ (a0 a1 a2 : Int32) (mm : zM) (o : Int32 × zM), rc a0 a1 a2 mm = some o → zOC E yX6_lookFor cX6_lookFor 7 (some .int) dr [zK 6 0, zI a0, zI a1, zI a2] mm (some (zI o.1)) o.2) (hdr : dr + 1 ≤ d) {Q : Option zV → zM → Prop} {v1 : Int32} {v2 : Int32} {v3 : Int32} {v6 : Nat} {v7 : Int32} {mm : zM} {o : (Int32 × zM)} (h : fX6_addTerms_J76 rc v1 v2 v3 v6 v7 mm = some o) (hQ : ∀ r, o = r → Q (some (zI r.1)) r.2) : V E RX6 cX6_addTerms 11 (some .int) d Q 76 [some (zK 6 0), some (zI v1), some (zI v2), some (zI v3), none, none, some (zK 7 v6), some (zI v7), none, none, none] [] mm := by
  unfold fX6_addTerms_J76 at h
  refine V_iconst 77 rfl (v := 0) dX6_addTerms_76 (by decide) ?_
  refine V_istore 79 rfl (L' := [some (zK 6 0), some (zI v1), some (zI v2), some (zI v3), none, none, some (zK 7 v6), some (zI v7), some (zI 0), none, none]) dX6_addTerms_77 (by decide) rfl ?_
  refine V_iconst 80 rfl (v := 0) dX6_addTerms_79 (by decide) ?_
  refine V_istore 82 rfl (L' := [some (zK 6 0), some (zI v1), some (zI v2), some (zI v3), none, none, some (zK 7 v6), some (zI v7), some (zI 0), some (zI 0), none]) dX6_addTerms_80 (by decide) rfl ?_
  obtain ⟨o8, h1, h⟩ := zbd h
  refine wX6_addTerms_L82 hd hrc hdr h1 (fun y6 e => ?_)
  have h := zcl_ e h
  refine V_iload 185 rfl dX6_addTerms_183 rfl ?_
  exact V_iret dX6_addTerms_185 rfl (hQ ((y6.1, y6.2)) (zinj h))
theorem wX6_addTerms {E : zE} {d : Nat} (hd : 1 ≤ d) {rc : Int32 → Int32 → Int32 → zM → Option (Int32 × zM)} {dr : Nat} (hrc : ∀ (a0 a1 a2 : Int32) (mm : zM) (o : Int32 × zM), rc a0 a1 a2 mm = some o → zOC E yX6_lookFor cX6_lookFor 7 (some .int) dr [zK 6 0, zI a0, zI a1, zI a2] mm (some (zI o.1)) o.2) (hdr : dr + 1 ≤ d) {Q : Option zV → zM → Prop} {v1 : Int32} {v2 : Int32} {v3 : Int32} {mm : zM} {o : (Int32 × zM)} (h : fX6_addTerms rc v1 v2 v3 mm = some o) (hQ : ∀ r, o = r → Q (some (zI r.1)) r.2) : V E RX6 cX6_addTerms 11 (some .int) d Q 0 [some (zK 6 0), some (zI v1), some (zI v2), some (zI v3), none, none, none, none, none, none, none] [] mm := by
  unfold fX6_addTerms at h
  refine V_aload_n 1 rfl 0 dX6_addTerms_0 rfl rfl ?_
  obtain ⟨hi, h⟩ := zobd h
  refine V_getm 4 rfl 2 dX6_addTerms_1 fl_X6_19 rfl rfl (eq_of_beq hi) ?_
  refine V_getr 7 rfl 16 0 dX6_addTerms_4 fl_X6_67 rfl rfl rfl ?_
  refine V_aload_n 8 rfl 0 dX6_addTerms_7 rfl rfl ?_
  refine V_geti 11 rfl dX6_addTerms_8 fl_X6_23 rfl ?_
  obtain ⟨hi, h⟩ := zobd h
  refine V_aald 12 rfl 17 (zn ((gi mm 6 0 3))) dX6_addTerms_11 rfl (by decide) (by decide) rfl rfl hi ?_
  refine V_iload_n 13 rfl 2 dX6_addTerms_12 rfl rfl ?_
  obtain ⟨hi, h⟩ := zobd h
  refine V_iald 14 rfl dX6_addTerms_13 rfl hi ?_
  refine V_istore 16 rfl (L' := [some (zK 6 0), some (zI v1), some (zI v2), some (zI v3), some (zI (gi mm 17 (zn ((gi mm 6 0 3))) (zn v2))), none, none, none, none, none, none]) dX6_addTerms_14 (by decide) rfl ?_
  refine V_aload_n 17 rfl 0 dX6_addTerms_16 rfl rfl ?_
  obtain ⟨hi, h⟩ := zobd h
  refine V_getm 20 rfl 0 dX6_addTerms_17 fl_X6_15 rfl rfl (eq_of_beq hi) ?_
  refine V_iload 22 rfl dX6_addTerms_20 rfl ?_
  refine V_iload_n 23 rfl 1 dX6_addTerms_22 rfl rfl ?_
  obtain ⟨x1, h1, h⟩ := zbd h
  refine V_cV 26 rfl 0 [zI (gi mm 17 (zn ((gi mm 6 0 3))) (zn v2)), zI v1] [] dX6_addTerms_23 cv_X6_78 (ctX0_firstSource (Nat.le_refl 0) h1) (Nat.le_trans (by decide) hd) rfl rfl (Nat.le_of_ble_eq_true rfl) zoki rfl ?_
  refine V_istore 28 rfl (L' := [some (zK 6 0), some (zI v1), some (zI v2), some (zI v3), some (zI (gi mm 17 (zn ((gi mm 6 0 3))) (zn v2))), some (zI x1), none, none, none, none, none]) dX6_addTerms_26 (by decide) rfl ?_
  refine V_aload_n 29 rfl 0 dX6_addTerms_28 rfl rfl ?_
  obtain ⟨j2, hj, h⟩ := zbd h
  refine V_getm 32 rfl 8 dX6_addTerms_29 fl_X6_9 rfl rfl hj ?_
  refine V_getr 35 rfl 35 j2 dX6_addTerms_32 fl_X6_81 rfl rfl rfl ?_
  refine V_iload 37 rfl dX6_addTerms_35 rfl ?_
  refine V_bipush 39 rfl (v := 26) dX6_addTerms_37 (by decide) ?_
  refine V_idiv 40 rfl dX6_addTerms_39 (by decide) ?_
  obtain ⟨hi, h⟩ := zobd h
  refine V_aald 41 rfl 7 (12 * j2 + zn ((x1 / 26))) dX6_addTerms_40 rfl (by decide) (by decide) rfl rfl hi ?_
  refine V_astore 43 rfl (L' := [some (zK 6 0), some (zI v1), some (zI v2), some (zI v3), some (zI (gi mm 17 (zn ((gi mm 6 0 3))) (zn v2))), some (zI x1), some (zK 7 (12 * j2 + zn ((x1 / 26)))), none, none, none, none]) dX6_addTerms_41 (by decide) rfl ?_
  refine V_iload 45 rfl dX6_addTerms_43 rfl ?_
  refine V_bipush 47 rfl (v := 26) dX6_addTerms_45 (by decide) ?_
  refine V_irem 48 rfl dX6_addTerms_47 (by decide) ?_
  refine V_istore 50 rfl (L' := [some (zK 6 0), some (zI v1), some (zI v2), some (zI v3), some (zI (gi mm 17 (zn ((gi mm 6 0 3))) (zn v2))), some (zI x1), some (zK 7 (12 * j2 + zn ((x1 / 26)))), some (zI (x1 - x1 / 26 * 26)), none, none, none]) dX6_addTerms_48 (by decide) rfl ?_
  refine V_aload_n 51 rfl 0 dX6_addTerms_50 rfl rfl ?_
  refine V_dup 52 rfl dX6_addTerms_51 rfl ?_
  refine V_geti 55 rfl dX6_addTerms_52 fl_X6_42 rfl ?_
  refine V_iconst 56 rfl (v := 1) dX6_addTerms_55 (by decide) ?_
  refine V_iload 58 rfl dX6_addTerms_56 rfl ?_
  refine V_bipush 60 rfl (v := 26) dX6_addTerms_58 (by decide) ?_
  refine V_idiv 61 rfl dX6_addTerms_60 (by decide) ?_
  refine V_ishl 62 rfl dX6_addTerms_61 ?_
  refine V_ior 63 rfl dX6_addTerms_62 ?_
  refine V_puti 66 rfl dX6_addTerms_63 fw_X6_42 rfl rfl rfl ?_
  refine V_iload_n 67 rfl 3 dX6_addTerms_66 rfl rfl ?_
  refine V_if_ne 70 76 rfl dX6_addTerms_67 (by decide) (fun c => ?_) (fun c => ?_)
  · have h := zneg c h
    exact V_w (zsub_s (zsub_s (zsub_s (zsub_s (zsub_n (zsub_n (zsub_s (zsub_s (zsub_s (zsub_s (zsub_s zsub_0))))))))))) (wX6_addTerms_J76 hd hrc hdr h hQ)
  · have h := zpos c h
    refine V_aload_n 71 rfl 0 dX6_addTerms_70 rfl rfl ?_
    refine V_iload 73 rfl dX6_addTerms_71 rfl ?_
    refine V_puti 76 rfl dX6_addTerms_73 fw_X6_36 rfl rfl rfl ?_
    exact V_w (zsub_s (zsub_s (zsub_s (zsub_s (zsub_n (zsub_n (zsub_s (zsub_s (zsub_s (zsub_s (zsub_s zsub_0))))))))))) (wX6_addTerms_J76 hd hrc hdr h hQ)
theorem ctX6_addTerms {E : zE} {d : Nat} (hd : 1 ≤ d) {rc : Int32 → Int32 → Int32 → zM → Option (Int32 × zM)} {dr : Nat} (hrc : ∀ (a0 a1 a2 : Int32) (mm : zM) (o : Int32 × zM), rc a0 a1 a2 mm = some o → zOC E yX6_lookFor cX6_lookFor 7 (some .int) dr [zK 6 0, zI a0, zI a1, zI a2] mm (some (zI o.1)) o.2) (hdr : dr + 1 ≤ d) {v1 : Int32} {v2 : Int32} {v3 : Int32} {mm : zM} {o : (Int32 × zM)} (h : fX6_addTerms rc v1 v2 v3 mm = some o) : zOC E yX6_addTerms cX6_addTerms 11 (some .int) d [zK 6 0, zI v1, zI v2, zI v3] mm (some (zI o.1)) o.2 :=
  zCT_of (by decide) (Nat.le_of_ble_eq_true rfl) (zk_k (zk_i (zk_i (zk_i zk_0)))) rfl (wX6_addTerms hd hrc hdr h (fun r e => ⟨by rw [e], by rw [e]⟩))
def fX6_lookFor_J15 (rc : Int32 → Int32 → Int32 → zM → Option (Int32 × zM)) (v3 : Int32) (mm : zM) : Option (Int32 × zM) :=
  (fX6_stop 5 v3 mm).bind (fun x1 => some ((x1.1, x1.2)))
def fX6_lookFor_L50 (rc : Int32 → Int32 → Int32 → zM → Option (Int32 × zM)) (v1 : Int32) (v3 : Int32) (s : (Int32 × Int32 × zM)) : Option ((Int32 × Int32 × zM) ⊕ ((Int32 × zM) ⊕ (Int32 × zM))) :=
  zob (gr s.2.2 6 2 == some 0) (zob (zin ((gi s.2.2 6 0 3)) 12) (if (gi s.2.2 18 0 (zn ((gi s.2.2 6 0 3)))) ≤ s.2.1 then (some (.inr (.inl (s.1, s.2.2)))) else (zob (gr s.2.2 6 1 == some 0) (zob (gr s.2.2 6 2 == some 0) (zob (zin ((gi s.2.2 6 0 3)) 12) (zob (zin s.2.1 12) ((fX0_kindOf ((gi s.2.2 17 (zn ((gi s.2.2 6 0 3))) (zn s.2.1))) v1 s.2.2).bind (fun x2 => if x2 = 1 then ((fX6_addTerms rc v1 s.2.1 v3 s.2.2).bind (fun x4 => some (.inr (.inr ((x4.1, x4.2)))))) else (if x2 = 3 then ((fX6_stop 3 v3 s.2.2).bind (fun x3 => some (.inr (.inr ((x3.1, x3.2)))))) else (if s.1 = 0 then (if x2 = 2 then (some (.inl (1, (s.2.1 + 1), s.2.2))) else (some (.inl (0, (s.2.1 + 1), s.2.2)))) else (some (.inl (1, (s.2.1 + 1), s.2.2)))))))))))))
def fX6_lookFor_J155 (rc : Int32 → Int32 → Int32 → zM → Option (Int32 × zM)) (v3 : Int32) (s0 : Int32) (mm : zM) : Option (Int32 × zM) :=
  (fX6_stop s0 v3 mm).bind (fun x7 => some ((x7.1, x7.2)))
def fX6_lookFor (rc : Int32 → Int32 → Int32 → zM → Option (Int32 × zM)) (v1 : Int32) (v2 : Int32) (v3 : Int32) (mm : zM) : Option (Int32 × zM) :=
  if 16 ≤ v3 then (fX6_lookFor_J15 rc v3 mm) else (if (gi mm 6 0 6) < 100 then ((zloop (fX6_lookFor_L50 rc v1 v3) zF (0, v2, (wi ((wi mm 6 0 6 ((((gi mm 6 0 6)) + 1)))) 6 0 7 ((if ((gi ((wi mm 6 0 6 ((((gi mm 6 0 6)) + 1)))) 6 0 7)) < v3 then v3 else ((gi ((wi mm 6 0 6 ((((gi mm 6 0 6)) + 1)))) 6 0 7))))))).bind (fun o8 => zcase o8 (fun y5 => if y5.1 = 0 then (fX6_lookFor_J155 rc v3 1 y5.2) else (fX6_lookFor_J155 rc v3 2 y5.2)) (fun r6 => some r6))) else (fX6_lookFor_J15 rc v3 mm))
def fX6_lookFor_n : Nat → Int32 → Int32 → Int32 → zM → Option (Int32 × zM)
  | 0 => fun _ _ _ _ => none
  | n + 1 => fX6_lookFor (fX6_lookFor_n n)
theorem wX6_lookFor_J15 {E : zE} {d : Nat} (hd : 2 ≤ d) {rc : Int32 → Int32 → Int32 → zM → Option (Int32 × zM)} {dr : Nat} (hrc : ∀ (a0 a1 a2 : Int32) (mm : zM) (o : Int32 × zM), rc a0 a1 a2 mm = some o → zOC E yX6_lookFor cX6_lookFor 7 (some .int) dr [zK 6 0, zI a0, zI a1, zI a2] mm (some (zI o.1)) o.2) (hdr : dr + 2 ≤ d) {Q : Option zV → zM → Prop} {v3 : Int32} {mm : zM} {o : (Int32 × zM)} (h : fX6_lookFor_J15 rc v3 mm = some o) (hQ : ∀ r, o = r → Q (some (zI r.1)) r.2) : V E RX6 cX6_lookFor 7 (some .int) d Q 15 [some (zK 6 0), none, none, some (zI v3), none, none, none] [] mm := by
  unfold fX6_lookFor_J15 at h
  refine V_aload_n 16 rfl 0 dX6_lookFor_15 rfl rfl ?_
  refine V_iconst 17 rfl (v := 5) dX6_lookFor_16 (by decide) ?_
  refine V_iload_n 18 rfl 3 dX6_lookFor_17 rfl rfl ?_
  obtain ⟨x1, h1, h⟩ := zbd h
  refine V_cV 21 rfl 0 [zI 5, zI v3] [] dX6_lookFor_18 cv_X6_58 (ctX6_stop (Nat.le_refl 0) h1) (Nat.le_trans (by decide) hd) rfl rfl (Nat.le_of_ble_eq_true rfl) zoki rfl ?_
  exact V_iret dX6_lookFor_21 rfl (hQ ((x1.1, x1.2)) (zinj h))
theorem wX6_lookFor_L50 {E : zE} {d : Nat} (hd : 2 ≤ d) {rc : Int32 → Int32 → Int32 → zM → Option (Int32 × zM)} {dr : Nat} (hrc : ∀ (a0 a1 a2 : Int32) (mm : zM) (o : Int32 × zM), rc a0 a1 a2 mm = some o → zOC E yX6_lookFor cX6_lookFor 7 (some .int) dr [zK 6 0, zI a0, zI a1, zI a2] mm (some (zI o.1)) o.2) (hdr : dr + 2 ≤ d) {Q : Option zV → zM → Prop} {v1 : Int32} {v3 : Int32} {n : Nat} {s : (Int32 × Int32 × zM)} {o : (Int32 × zM) ⊕ (Int32 × zM)} (h : zloop (fX6_lookFor_L50 rc v1 v3) n s = some o) (he : ∀ y : (Int32 × zM), o = .inl y → V E RX6 cX6_lookFor 7 (some .int) d Q 144 [some (zK 6 0), none, none, some (zI v3), some (zI y.1), none, none] [] y.2) (hr : ∀ r : (Int32 × zM), o = .inr r → Q (some (zI r.1)) r.2) : V E RX6 cX6_lookFor 7 (some .int) d Q 50 [some (zK 6 0), some (zI v1), none, some (zI v3), some (zI s.1), some (zI s.2.1), none] [] s.2.2 := by
  induction n generalizing s with
  | zero => exact (zloop_0 h).elim
  | succ n ih =>
    obtain ⟨o1, h1, hc1, he1⟩ := zloop_s h
    have kc : ∀ s' : (Int32 × Int32 × zM), o1 = .inl s' → V E RX6 cX6_lookFor 7 (some .int) d Q 50 [some (zK 6 0), some (zI v1), none, some (zI v3), some (zI s'.1), some (zI s'.2.1), none] [] s'.2.2 := fun s' e => ih (hc1 s' e)
    have ke : ∀ y : (Int32 × zM), o1 = .inr (.inl y) → V E RX6 cX6_lookFor 7 (some .int) d Q 144 [some (zK 6 0), none, none, some (zI v3), some (zI y.1), none, none] [] y.2 := fun y e => he y (he1 _ e)
    have kr : ∀ r : (Int32 × zM), o1 = .inr (.inr r) → Q (some (zI r.1)) r.2 := fun r e => hr r (he1 _ e)
    clear h hc1 he1 ih
    have h := h1
    clear h1
    unfold fX6_lookFor_L50 at h
    refine V_iload 52 rfl dX6_lookFor_50 rfl ?_
    refine V_aload_n 53 rfl 0 dX6_lookFor_52 rfl rfl ?_
    obtain ⟨hi, h⟩ := zobd h
    refine V_getm 56 rfl 2 dX6_lookFor_53 fl_X6_19 rfl rfl (eq_of_beq hi) ?_
    refine V_getr 59 rfl 18 0 dX6_lookFor_56 fl_X6_48 rfl rfl rfl ?_
    refine V_aload_n 60 rfl 0 dX6_lookFor_59 rfl rfl ?_
    refine V_geti 63 rfl dX6_lookFor_60 fl_X6_23 rfl ?_
    obtain ⟨hi, h⟩ := zobd h
    refine V_iald 64 rfl dX6_lookFor_63 rfl hi ?_
    refine V_icmp_ge 67 144 rfl dX6_lookFor_64 (by decide) (fun c => ?_) (fun c => ?_)
    · have h := zpos c h
      exact V_w (zsub_s (zsub_n (zsub_s (zsub_s (zsub_s (zsub_n (zsub_s zsub_0))))))) (ke (s.1, s.2.2) (zinj h))
    · have h := zneg c h
      refine V_aload_n 68 rfl 0 dX6_lookFor_67 rfl rfl ?_
      obtain ⟨hi, h⟩ := zobd h
      refine V_getm 71 rfl 0 dX6_lookFor_68 fl_X6_15 rfl rfl (eq_of_beq hi) ?_
      refine V_aload_n 72 rfl 0 dX6_lookFor_71 rfl rfl ?_
      obtain ⟨hi, h⟩ := zobd h
      refine V_getm 75 rfl 2 dX6_lookFor_72 fl_X6_19 rfl rfl (eq_of_beq hi) ?_
      refine V_getr 78 rfl 16 0 dX6_lookFor_75 fl_X6_67 rfl rfl rfl ?_
      refine V_aload_n 79 rfl 0 dX6_lookFor_78 rfl rfl ?_
      refine V_geti 82 rfl dX6_lookFor_79 fl_X6_23 rfl ?_
      obtain ⟨hi, h⟩ := zobd h
      refine V_aald 83 rfl 17 (zn ((gi s.2.2 6 0 3))) dX6_lookFor_82 rfl (by decide) (by decide) rfl rfl hi ?_
      refine V_iload 85 rfl dX6_lookFor_83 rfl ?_
      obtain ⟨hi, h⟩ := zobd h
      refine V_iald 86 rfl dX6_lookFor_85 rfl hi ?_
      refine V_iload_n 87 rfl 1 dX6_lookFor_86 rfl rfl ?_
      obtain ⟨x2, h1, h⟩ := zbd h
      refine V_cV 90 rfl 0 [zI (gi s.2.2 17 (zn ((gi s.2.2 6 0 3))) (zn s.2.1)), zI v1] [] dX6_lookFor_87 cv_X6_70 (ctX0_kindOf (Nat.le_refl 0) h1) (Nat.le_trans (by decide) hd) rfl rfl (Nat.le_of_ble_eq_true rfl) zoki rfl ?_
      refine V_istore 92 rfl (L' := [some (zK 6 0), some (zI v1), none, some (zI v3), some (zI s.1), some (zI s.2.1), some (zI x2)]) dX6_lookFor_90 (by decide) rfl ?_
      refine V_iload 94 rfl dX6_lookFor_92 rfl ?_
      refine V_iconst 95 rfl (v := 1) dX6_lookFor_94 (by decide) ?_
      refine V_icmp_ne 98 107 rfl dX6_lookFor_95 (by decide) (fun c => ?_) (fun c => ?_)
      · have h := zneg c h
        refine V_iload 109 rfl dX6_lookFor_107 rfl ?_
        refine V_iconst 110 rfl (v := 3) dX6_lookFor_109 (by decide) ?_
        refine V_icmp_ne 113 120 rfl dX6_lookFor_110 (by decide) (fun c => ?_) (fun c => ?_)
        · have h := zneg c h
          refine V_iload 122 rfl dX6_lookFor_120 rfl ?_
          refine V_if_ne 125 131 rfl dX6_lookFor_122 (by decide) (fun c => ?_) (fun c => ?_)
          · have h := zneg c h
            refine V_iconst 132 rfl (v := 1) dX6_lookFor_131 (by decide) ?_
            refine V_goto 136 dX6_lookFor_132 (by decide) ?_
            refine V_istore 138 rfl (L' := [some (zK 6 0), some (zI v1), none, some (zI v3), some (zI 1), some (zI s.2.1), some (zI x2)]) dX6_lookFor_136 (by decide) rfl ?_
            refine V_iinc 141 rfl (s.2.1 + 1) (L' := [some (zK 6 0), some (zI v1), none, some (zI v3), some (zI 1), some (zI (s.2.1 + 1)), some (zI x2)]) dX6_lookFor_138 rfl rfl (by decide) rfl ?_
            refine V_goto 50 dX6_lookFor_141 (by decide) ?_
            exact V_w (zsub_s (zsub_s (zsub_s (zsub_s (zsub_s (zsub_s (zsub_n zsub_0))))))) (kc (1, (s.2.1 + 1), s.2.2) (zinj h))
          · have h := zpos c h
            refine V_iload 127 rfl dX6_lookFor_125 rfl ?_
            refine V_iconst 128 rfl (v := 2) dX6_lookFor_127 (by decide) ?_
            refine V_icmp_ne 131 135 rfl dX6_lookFor_128 (by decide) (fun c => ?_) (fun c => ?_)
            · have h := zneg c h
              refine V_iconst 136 rfl (v := 0) dX6_lookFor_135 (by decide) ?_
              refine V_istore 138 rfl (L' := [some (zK 6 0), some (zI v1), none, some (zI v3), some (zI 0), some (zI s.2.1), some (zI x2)]) dX6_lookFor_136 (by decide) rfl ?_
              refine V_iinc 141 rfl (s.2.1 + 1) (L' := [some (zK 6 0), some (zI v1), none, some (zI v3), some (zI 0), some (zI (s.2.1 + 1)), some (zI x2)]) dX6_lookFor_138 rfl rfl (by decide) rfl ?_
              refine V_goto 50 dX6_lookFor_141 (by decide) ?_
              exact V_w (zsub_s (zsub_s (zsub_s (zsub_s (zsub_s (zsub_s (zsub_n zsub_0))))))) (kc (0, (s.2.1 + 1), s.2.2) (zinj h))
            · have h := zpos c h
              refine V_iconst 132 rfl (v := 1) dX6_lookFor_131 (by decide) ?_
              refine V_goto 136 dX6_lookFor_132 (by decide) ?_
              refine V_istore 138 rfl (L' := [some (zK 6 0), some (zI v1), none, some (zI v3), some (zI 1), some (zI s.2.1), some (zI x2)]) dX6_lookFor_136 (by decide) rfl ?_
              refine V_iinc 141 rfl (s.2.1 + 1) (L' := [some (zK 6 0), some (zI v1), none, some (zI v3), some (zI 1), some (zI (s.2.1 + 1)), some (zI x2)]) dX6_lookFor_138 rfl rfl (by decide) rfl ?_
              refine V_goto 50 dX6_lookFor_141 (by decide) ?_
              exact V_w (zsub_s (zsub_s (zsub_s (zsub_s (zsub_s (zsub_s (zsub_n zsub_0))))))) (kc (1, (s.2.1 + 1), s.2.2) (zinj h))
        · have h := zpos c h
          refine V_aload_n 114 rfl 0 dX6_lookFor_113 rfl rfl ?_
          refine V_iconst 115 rfl (v := 3) dX6_lookFor_114 (by decide) ?_
          refine V_iload_n 116 rfl 3 dX6_lookFor_115 rfl rfl ?_
          obtain ⟨x3, h1, h⟩ := zbd h
          refine V_cV 119 rfl 0 [zI 3, zI v3] [] dX6_lookFor_116 cv_X6_58 (ctX6_stop (Nat.le_refl 0) h1) (Nat.le_trans (by decide) hd) rfl rfl (Nat.le_of_ble_eq_true rfl) zoki rfl ?_
          exact V_iret dX6_lookFor_119 rfl (kr ((x3.1, x3.2)) (zinj h))
      · have h := zpos c h
        refine V_aload_n 99 rfl 0 dX6_lookFor_98 rfl rfl ?_
        refine V_iload_n 100 rfl 1 dX6_lookFor_99 rfl rfl ?_
        refine V_iload 102 rfl dX6_lookFor_100 rfl ?_
        refine V_iload_n 103 rfl 3 dX6_lookFor_102 rfl rfl ?_
        obtain ⟨x4, h1, h⟩ := zbd h
        refine V_cV 106 rfl (d - 1) [zI v1, zI s.2.1, zI v3] [] dX6_lookFor_103 cv_X6_75 (ctX6_addTerms (d := d - 1) (dr := dr) (by omega) hrc (by omega) h1) (by omega) rfl rfl (Nat.le_of_ble_eq_true rfl) zoki rfl ?_
        exact V_iret dX6_lookFor_106 rfl (kr ((x4.1, x4.2)) (zinj h))
theorem wX6_lookFor_J155 {E : zE} {d : Nat} (hd : 2 ≤ d) {rc : Int32 → Int32 → Int32 → zM → Option (Int32 × zM)} {dr : Nat} (hrc : ∀ (a0 a1 a2 : Int32) (mm : zM) (o : Int32 × zM), rc a0 a1 a2 mm = some o → zOC E yX6_lookFor cX6_lookFor 7 (some .int) dr [zK 6 0, zI a0, zI a1, zI a2] mm (some (zI o.1)) o.2) (hdr : dr + 2 ≤ d) {Q : Option zV → zM → Prop} {v3 : Int32} {s0 : Int32} {mm : zM} {o : (Int32 × zM)} (h : fX6_lookFor_J155 rc v3 s0 mm = some o) (hQ : ∀ r, o = r → Q (some (zI r.1)) r.2) : V E RX6 cX6_lookFor 7 (some .int) d Q 155 [none, none, none, some (zI v3), none, none, none] [zI s0, zK 6 0] mm := by
  unfold fX6_lookFor_J155 at h
  refine V_iload_n 156 rfl 3 dX6_lookFor_155 rfl rfl ?_
  obtain ⟨x7, h1, h⟩ := zbd h
  refine V_cV 159 rfl 0 [zI s0, zI v3] [] dX6_lookFor_156 cv_X6_58 (ctX6_stop (Nat.le_refl 0) h1) (Nat.le_trans (by decide) hd) rfl rfl (Nat.le_of_ble_eq_true rfl) zoki rfl ?_
  exact V_iret dX6_lookFor_159 rfl (hQ ((x7.1, x7.2)) (zinj h))
theorem wX6_lookFor {E : zE} {d : Nat} (hd : 2 ≤ d) {rc : Int32 → Int32 → Int32 → zM → Option (Int32 × zM)} {dr : Nat} (hrc : ∀ (a0 a1 a2 : Int32) (mm : zM) (o : Int32 × zM), rc a0 a1 a2 mm = some o → zOC E yX6_lookFor cX6_lookFor 7 (some .int) dr [zK 6 0, zI a0, zI a1, zI a2] mm (some (zI o.1)) o.2) (hdr : dr + 2 ≤ d) {Q : Option zV → zM → Prop} {v1 : Int32} {v2 : Int32} {v3 : Int32} {mm : zM} {o : (Int32 × zM)} (h : fX6_lookFor rc v1 v2 v3 mm = some o) (hQ : ∀ r, o = r → Q (some (zI r.1)) r.2) : V E RX6 cX6_lookFor 7 (some .int) d Q 0 [some (zK 6 0), some (zI v1), some (zI v2), some (zI v3), none, none, none] [] mm := by
  unfold fX6_lookFor at h
  refine V_iload_n 1 rfl 3 dX6_lookFor_0 rfl rfl ?_
  refine V_bipush 3 rfl (v := 16) dX6_lookFor_1 (by decide) ?_
  refine V_icmp_ge 6 15 rfl dX6_lookFor_3 (by decide) (fun c => ?_) (fun c => ?_)
  · have h := zpos c h
    exact V_w (zsub_s (zsub_n (zsub_n (zsub_s (zsub_s (zsub_s (zsub_s zsub_0))))))) (wX6_lookFor_J15 hd hrc hdr h hQ)
  · have h := zneg c h
    refine V_aload_n 7 rfl 0 dX6_lookFor_6 rfl rfl ?_
    refine V_geti 10 rfl dX6_lookFor_7 fl_X6_30 rfl ?_
    refine V_bipush 12 rfl (v := 100) dX6_lookFor_10 (by decide) ?_
    refine V_icmp_lt 15 22 rfl dX6_lookFor_12 (by decide) (fun c => ?_) (fun c => ?_)
    · have h := zpos c h
      refine V_aload_n 23 rfl 0 dX6_lookFor_22 rfl rfl ?_
      refine V_dup 24 rfl dX6_lookFor_23 rfl ?_
      refine V_geti 27 rfl dX6_lookFor_24 fl_X6_30 rfl ?_
      refine V_iconst 28 rfl (v := 1) dX6_lookFor_27 (by decide) ?_
      refine V_iadd 29 rfl dX6_lookFor_28 ?_
      refine V_puti 32 rfl dX6_lookFor_29 fw_X6_30 rfl rfl rfl ?_
      refine V_aload_n 33 rfl 0 dX6_lookFor_32 rfl rfl ?_
      refine V_aload_n 34 rfl 0 dX6_lookFor_33 rfl rfl ?_
      refine V_geti 37 rfl dX6_lookFor_34 fl_X6_33 rfl ?_
      refine V_iload_n 38 rfl 3 dX6_lookFor_37 rfl rfl ?_
      refine V_mmax 41 rfl dX6_lookFor_38 tb_1007 (Nat.le_trans (by decide) hd) (Nat.le_of_ble_eq_true rfl) ?_
      refine V_puti 44 rfl dX6_lookFor_41 fw_X6_33 rfl rfl rfl ?_
      refine V_iconst 45 rfl (v := 0) dX6_lookFor_44 (by decide) ?_
      refine V_istore 47 rfl (L' := [some (zK 6 0), some (zI v1), some (zI v2), some (zI v3), some (zI 0), none, none]) dX6_lookFor_45 (by decide) rfl ?_
      refine V_iload_n 48 rfl 2 dX6_lookFor_47 rfl rfl ?_
      refine V_istore 50 rfl (L' := [some (zK 6 0), some (zI v1), some (zI v2), some (zI v3), some (zI 0), some (zI v2), none]) dX6_lookFor_48 (by decide) rfl ?_
      obtain ⟨o8, h1, h⟩ := zbd h
      refine V_w (zsub_s (zsub_s (zsub_n (zsub_s (zsub_s (zsub_s (zsub_s zsub_0))))))) (wX6_lookFor_L50 hd hrc hdr h1 (fun y5 e => ?_) (fun r e => by have h := zcr_ e h; exact hQ r (zinj h)))
      have h := zcl_ e h
      refine V_aload_n 145 rfl 0 dX6_lookFor_144 rfl rfl ?_
      refine V_iload 147 rfl dX6_lookFor_145 rfl ?_
      refine V_if_eq 150 154 rfl dX6_lookFor_147 (by decide) (fun c => ?_) (fun c => ?_)
      · have h := zpos c h
        refine V_iconst 155 rfl (v := 1) dX6_lookFor_154 (by decide) ?_
        exact V_w (zsub_n (zsub_s (zsub_s (zsub_s (zsub_n (zsub_s (zsub_s zsub_0))))))) (wX6_lookFor_J155 hd hrc hdr h hQ)
      · have h := zneg c h
        refine V_iconst 151 rfl (v := 2) dX6_lookFor_150 (by decide) ?_
        refine V_goto 155 dX6_lookFor_151 (by decide) ?_
        exact V_w (zsub_n (zsub_s (zsub_s (zsub_s (zsub_n (zsub_s (zsub_s zsub_0))))))) (wX6_lookFor_J155 hd hrc hdr h hQ)
    · have h := zneg c h
      exact V_w (zsub_s (zsub_n (zsub_n (zsub_s (zsub_s (zsub_s (zsub_s zsub_0))))))) (wX6_lookFor_J15 hd hrc hdr h hQ)
theorem ctX6_lookFor {E : zE} {d : Nat} (hd : 2 ≤ d) {rc : Int32 → Int32 → Int32 → zM → Option (Int32 × zM)} {dr : Nat} (hrc : ∀ (a0 a1 a2 : Int32) (mm : zM) (o : Int32 × zM), rc a0 a1 a2 mm = some o → zOC E yX6_lookFor cX6_lookFor 7 (some .int) dr [zK 6 0, zI a0, zI a1, zI a2] mm (some (zI o.1)) o.2) (hdr : dr + 2 ≤ d) {v1 : Int32} {v2 : Int32} {v3 : Int32} {mm : zM} {o : (Int32 × zM)} (h : fX6_lookFor rc v1 v2 v3 mm = some o) : zOC E yX6_lookFor cX6_lookFor 7 (some .int) d [zK 6 0, zI v1, zI v2, zI v3] mm (some (zI o.1)) o.2 :=
  zCT_of (by decide) (Nat.le_of_ble_eq_true rfl) (zk_k (zk_i (zk_i (zk_i zk_0)))) rfl (wX6_lookFor hd hrc hdr h (fun r e => ⟨by rw [e], by rw [e]⟩))
theorem ctX6_lookFor_n {E : zE} : ∀ (n : Nat) {d : Nat} (_ : 2 + 2 * n ≤ d) {v1 : Int32} {v2 : Int32} {v3 : Int32} {mm : zM} {o : (Int32 × zM)} (_ : fX6_lookFor_n n v1 v2 v3 mm = some o), zOC E yX6_lookFor cX6_lookFor 7 (some .int) d [zK 6 0, zI v1, zI v2, zI v3] mm (some (zI o.1)) o.2
  | 0, _, _, _, _, _, _, _, h => by cases h
  | n + 1, d, hd, v1, v2, v3, mm, o, h => ctX6_lookFor (d := d) (dr := d - 2) (by omega) (fun _ _ _ mm o h => ctX6_lookFor_n n (by omega) h) (by omega) h
def fX6_run_J99 (s0 : Int32) (mm : zM) : Option zM :=
  some ((wi mm 6 0 5 s0))
def fX6_run (v1 : Nat) (v4 : Int32) (v5 : Int32) (mm : zM) : Option zM :=
  zob (gr ((wi ((wi ((wi ((wi ((wi ((wi ((wi ((wi ((wr ((wr ((wr mm 6 0 (some v1))) 6 1 (some 0))) 6 2 (some 0))) 6 0 3 v4)) 6 0 4 0)) 6 0 6 0)) 6 0 7 ((-1)))) 6 0 8 ((-1)))) 6 0 9 ((-1)))) 6 0 10 0)) 6 0 5 0)) 6 2 == some 0) (zob (zin v4 12) (if (gi ((wi ((wi ((wi ((wi ((wi ((wi ((wi ((wi ((wr ((wr ((wr mm 6 0 (some v1))) 6 1 (some 0))) 6 2 (some 0))) 6 0 3 v4)) 6 0 4 0)) 6 0 6 0)) 6 0 7 ((-1)))) 6 0 8 ((-1)))) 6 0 9 ((-1)))) 6 0 10 0)) 6 0 5 0)) 18 0 (zn v4)) = 0 then (some ((wi ((wi ((wi ((wi ((wi ((wi ((wi ((wi ((wi ((wr ((wr ((wr mm 6 0 (some v1))) 6 1 (some 0))) 6 2 (some 0))) 6 0 3 v4)) 6 0 4 0)) 6 0 6 0)) 6 0 7 ((-1)))) 6 0 8 ((-1)))) 6 0 9 ((-1)))) 6 0 10 0)) 6 0 5 0)) 6 0 4 4))) else ((fX6_lookFor_n 20 v5 0 0 ((wi ((wi ((wi ((wi ((wi ((wi ((wi ((wi ((wr ((wr ((wr mm 6 0 (some v1))) 6 1 (some 0))) 6 2 (some 0))) 6 0 3 v4)) 6 0 4 0)) 6 0 6 0)) 6 0 7 ((-1)))) 6 0 8 ((-1)))) 6 0 9 ((-1)))) 6 0 10 0)) 6 0 5 0))).bind (fun x1 => if (gi x1.2 6 0 4) = 0 then (fX6_run_J99 x1.1 x1.2) else (fX6_run_J99 0 x1.2)))))
theorem wX6_run_J99 {E : zE} {d : Nat} (hd : 43 ≤ d) {Q : Option zV → zM → Prop} {s0 : Int32} {mm : zM} {o : zM} (h : fX6_run_J99 s0 mm = some o) (hQ : ∀ r, o = r → Q none r) : V E RX6 cX6_run 7 none d Q 99 [none, none, none, none, none, none, none] [zI s0, zK 6 0] mm := by
  unfold fX6_run_J99 at h
  refine V_puti 102 rfl dX6_run_99 fw_X6_45 rfl rfl rfl ?_
  exact V_vret dX6_run_102 rfl (hQ ((wi mm 6 0 5 s0)) (zinj h))
theorem wX6_run {E : zE} {d : Nat} (hd : 43 ≤ d) {Q : Option zV → zM → Prop} {v1 : Nat} {v4 : Int32} {v5 : Int32} {mm : zM} {o : zM} (h : fX6_run v1 v4 v5 mm = some o) (hQ : ∀ r, o = r → Q none r) : V E RX6 cX6_run 7 none d Q 0 [some (zK 6 0), some (zK 8 v1), some (zK 0 0), some (zK 2 0), some (zI v4), some (zI v5), none] [] mm := by
  unfold fX6_run at h
  refine V_aload_n 1 rfl 0 dX6_run_0 rfl rfl ?_
  refine V_aload_n 2 rfl 1 dX6_run_1 rfl rfl ?_
  refine V_putm 5 rfl dX6_run_2 fw_X6_9 rfl rfl rfl (fun _ => rfl) (fun _ => rfl) ?_
  refine V_aload_n 6 rfl 0 dX6_run_5 rfl rfl ?_
  refine V_aload_n 7 rfl 2 dX6_run_6 rfl rfl ?_
  refine V_putm 10 rfl dX6_run_7 fw_X6_15 rfl rfl rfl (fun _ => rfl) (fun _ => rfl) ?_
  refine V_aload_n 11 rfl 0 dX6_run_10 rfl rfl ?_
  refine V_aload_n 12 rfl 3 dX6_run_11 rfl rfl ?_
  refine V_putm 15 rfl dX6_run_12 fw_X6_19 rfl rfl rfl (fun _ => rfl) (fun _ => rfl) ?_
  refine V_aload_n 16 rfl 0 dX6_run_15 rfl rfl ?_
  refine V_iload 18 rfl dX6_run_16 rfl ?_
  refine V_puti 21 rfl dX6_run_18 fw_X6_23 rfl rfl rfl ?_
  refine V_aload_n 22 rfl 0 dX6_run_21 rfl rfl ?_
  refine V_iconst 23 rfl (v := 0) dX6_run_22 (by decide) ?_
  refine V_puti 26 rfl dX6_run_23 fw_X6_27 rfl rfl rfl ?_
  refine V_aload_n 27 rfl 0 dX6_run_26 rfl rfl ?_
  refine V_iconst 28 rfl (v := 0) dX6_run_27 (by decide) ?_
  refine V_puti 31 rfl dX6_run_28 fw_X6_30 rfl rfl rfl ?_
  refine V_aload_n 32 rfl 0 dX6_run_31 rfl rfl ?_
  refine V_iconst 33 rfl (v := (-1)) dX6_run_32 (by decide) ?_
  refine V_puti 36 rfl dX6_run_33 fw_X6_33 rfl rfl rfl ?_
  refine V_aload_n 37 rfl 0 dX6_run_36 rfl rfl ?_
  refine V_iconst 38 rfl (v := (-1)) dX6_run_37 (by decide) ?_
  refine V_puti 41 rfl dX6_run_38 fw_X6_36 rfl rfl rfl ?_
  refine V_aload_n 42 rfl 0 dX6_run_41 rfl rfl ?_
  refine V_iconst 43 rfl (v := (-1)) dX6_run_42 (by decide) ?_
  refine V_puti 46 rfl dX6_run_43 fw_X6_39 rfl rfl rfl ?_
  refine V_aload_n 47 rfl 0 dX6_run_46 rfl rfl ?_
  refine V_iconst 48 rfl (v := 0) dX6_run_47 (by decide) ?_
  refine V_puti 51 rfl dX6_run_48 fw_X6_42 rfl rfl rfl ?_
  refine V_aload_n 52 rfl 0 dX6_run_51 rfl rfl ?_
  refine V_iconst 53 rfl (v := 0) dX6_run_52 (by decide) ?_
  refine V_puti 56 rfl dX6_run_53 fw_X6_45 rfl rfl rfl ?_
  refine V_aload_n 57 rfl 0 dX6_run_56 rfl rfl ?_
  obtain ⟨hi, h⟩ := zobd h
  refine V_getm 60 rfl 2 dX6_run_57 fl_X6_19 rfl rfl (eq_of_beq hi) ?_
  refine V_getr 63 rfl 18 0 dX6_run_60 fl_X6_48 rfl rfl rfl ?_
  refine V_iload 65 rfl dX6_run_63 rfl ?_
  obtain ⟨hi, h⟩ := zobd h
  refine V_iald 66 rfl dX6_run_65 rfl hi ?_
  refine V_if_ne 69 75 rfl dX6_run_66 (by decide) (fun c => ?_) (fun c => ?_)
  · have h := zneg c h
    refine V_aload_n 76 rfl 0 dX6_run_75 rfl rfl ?_
    refine V_iload 78 rfl dX6_run_76 rfl ?_
    refine V_iconst 79 rfl (v := 0) dX6_run_78 (by decide) ?_
    refine V_iconst 80 rfl (v := 0) dX6_run_79 (by decide) ?_
    obtain ⟨x1, h1, h⟩ := zbd h
    refine V_cV 83 rfl 42 [zI v5, zI 0, zI 0] [] dX6_run_80 cv_X6_54 (ctX6_lookFor_n 20 (Nat.le_refl _) h1) (Nat.le_trans (by decide) hd) rfl rfl (Nat.le_of_ble_eq_true rfl) zoki rfl ?_
    refine V_istore 85 rfl (L' := [some (zK 6 0), some (zK 8 v1), some (zK 0 0), some (zK 2 0), some (zI v4), some (zI v5), some (zI x1.1)]) dX6_run_83 (by decide) rfl ?_
    refine V_aload_n 86 rfl 0 dX6_run_85 rfl rfl ?_
    refine V_aload_n 87 rfl 0 dX6_run_86 rfl rfl ?_
    refine V_geti 90 rfl dX6_run_87 fl_X6_27 rfl ?_
    refine V_if_ne 93 98 rfl dX6_run_90 (by decide) (fun c => ?_) (fun c => ?_)
    · have h := zneg c h
      refine V_iconst 99 rfl (v := 0) dX6_run_98 (by decide) ?_
      exact V_w (zsub_n (zsub_n (zsub_n (zsub_n (zsub_n (zsub_n (zsub_n zsub_0))))))) (wX6_run_J99 hd h hQ)
    · have h := zpos c h
      refine V_iload 95 rfl dX6_run_93 rfl ?_
      refine V_goto 99 dX6_run_95 (by decide) ?_
      exact V_w (zsub_n (zsub_n (zsub_n (zsub_n (zsub_n (zsub_n (zsub_n zsub_0))))))) (wX6_run_J99 hd h hQ)
  · have h := zpos c h
    refine V_aload_n 70 rfl 0 dX6_run_69 rfl rfl ?_
    refine V_iconst 71 rfl (v := 4) dX6_run_70 (by decide) ?_
    refine V_puti 74 rfl dX6_run_71 fw_X6_27 rfl rfl rfl ?_
    exact V_vret dX6_run_74 rfl (hQ ((wi ((wi ((wi ((wi ((wi ((wi ((wi ((wi ((wi ((wr ((wr ((wr mm 6 0 (some v1))) 6 1 (some 0))) 6 2 (some 0))) 6 0 3 v4)) 6 0 4 0)) 6 0 6 0)) 6 0 7 ((-1)))) 6 0 8 ((-1)))) 6 0 9 ((-1)))) 6 0 10 0)) 6 0 5 0)) 6 0 4 4)) (zinj h))
theorem ctX6_run {E : zE} {d : Nat} (hd : 43 ≤ d) {v1 : Nat} {v4 : Int32} {v5 : Int32} {mm : zM} {o : zM} (h : fX6_run v1 v4 v5 mm = some o) : zOC E yX6_run cX6_run 7 none d [zK 6 0, zK 8 v1, zK 0 0, zK 2 0, zI v4, zI v5] mm none o :=
  zCT_of (by decide) (Nat.le_of_ble_eq_true rfl) (zk_k (zk_k (zk_k (zk_k (zk_i (zk_i zk_0)))))) rfl (wX6_run hd h (fun r e => ⟨rfl, by rw [e]⟩))
def fX9_runSend (v1 : Int32) (v2 : Int32) (mm : zM) : Option zM :=
  (gr mm 9 2).bind (fun j1 => (fX6_run j1 v1 v2 mm).bind (fun x2 => some x2))
theorem wX9_runSend {E : zE} {d : Nat} (hd : 44 ≤ d) {Q : Option zV → zM → Prop} {v1 : Int32} {v2 : Int32} {mm : zM} {o : zM} (h : fX9_runSend v1 v2 mm = some o) (hQ : ∀ r, o = r → Q none r) : V E RX9 cX9_runSend 3 none d Q 0 [some (zK 9 0), some (zI v1), some (zI v2)] [] mm := by
  unfold fX9_runSend at h
  refine V_aload_n 1 rfl 0 dX9_runSend_0 rfl rfl ?_
  refine V_getr 4 rfl 6 0 dX9_runSend_1 fl_X9_65 rfl rfl rfl ?_
  refine V_aload_n 5 rfl 0 dX9_runSend_4 rfl rfl ?_
  obtain ⟨j1, hj, h⟩ := zbd h
  refine V_getm 8 rfl 8 dX9_runSend_5 fl_X9_16 rfl rfl hj ?_
  refine V_aload_n 9 rfl 0 dX9_runSend_8 rfl rfl ?_
  refine V_getr 12 rfl 0 0 dX9_runSend_9 fl_X9_44 rfl rfl rfl ?_
  refine V_aload_n 13 rfl 0 dX9_runSend_12 rfl rfl ?_
  refine V_getr 16 rfl 2 0 dX9_runSend_13 fl_X9_51 rfl rfl rfl ?_
  refine V_iload_n 17 rfl 1 dX9_runSend_16 rfl rfl ?_
  refine V_iload_n 18 rfl 2 dX9_runSend_17 rfl rfl ?_
  obtain ⟨x2, h1, h⟩ := zbd h
  refine V_cV 21 rfl 43 [zK 8 j1, zK 0 0, zK 2 0, zI v1, zI v2] [] dX9_runSend_18 cv_X9_292 (ctX6_run (Nat.le_refl 43) h1) (Nat.le_trans (by decide) hd) rfl rfl (Nat.le_of_ble_eq_true rfl) zokn rfl ?_
  exact V_vret dX9_runSend_21 rfl (hQ x2 (zinj h))
theorem ctX9_runSend {E : zE} {d : Nat} (hd : 44 ≤ d) {v1 : Int32} {v2 : Int32} {mm : zM} {o : zM} (h : fX9_runSend v1 v2 mm = some o) : zOC E yX9_runSend cX9_runSend 3 none d [zK 9 0, zI v1, zI v2] mm none o :=
  zCT_of (by decide) (Nat.le_of_ble_eq_true rfl) (zk_k (zk_i (zk_i zk_0))) rfl (wX9_runSend hd h (fun r e => ⟨rfl, by rw [e]⟩))
def fX9_send (v1 : Int32) (v2 : Int32) (v3 : Int32) (mm : zM) : Option (Int32 × zM) :=
  (gr mm 9 2).bind (fun j1 => (fX8_isType j1 v1 mm).bind (fun x2 => if x2 = 0 then (some (((-2147483648), mm))) else ((fX9_isLetter v2 mm).bind (fun x3 => if x3 = 0 then (some (((-2147483648), mm))) else (if v3 < 0 then (some (((-2147483648), mm))) else (if v3 ≤ 5 then ((fX9_settle mm).bind (fun x4 => (fX9_runSend v1 v2 x4).bind (fun x5 => if v3 = 0 then (some (((gi x5 6 0 4), x5))) else (if v3 = 1 then (some (((gi x5 6 0 5), x5))) else (if v3 = 2 then (some (((gi x5 6 0 6), x5))) else (if v3 = 3 then (some (((gi x5 6 0 7), x5))) else (if v3 = 4 then (some (((gi x5 6 0 8), x5))) else (some (((gi x5 6 0 9), x5)))))))))) else (some (((-2147483648), mm)))))))))
theorem wX9_send {E : zE} {d : Nat} (hd : 45 ≤ d) {Q : Option zV → zM → Prop} {v1 : Int32} {v2 : Int32} {v3 : Int32} {mm : zM} {o : (Int32 × zM)} (h : fX9_send v1 v2 v3 mm = some o) (hQ : ∀ r, o = r → Q (some (zI r.1)) r.2) : V E RX9 cX9_send 4 (some .int) d Q 0 [some (zK 9 0), some (zI v1), some (zI v2), some (zI v3)] [] mm := by
  unfold fX9_send at h
  refine V_aload_n 1 rfl 0 dX9_send_0 rfl rfl ?_
  obtain ⟨j1, hj, h⟩ := zbd h
  refine V_getm 4 rfl 8 dX9_send_1 fl_X9_16 rfl rfl hj ?_
  refine V_iload_n 5 rfl 1 dX9_send_4 rfl rfl ?_
  obtain ⟨x2, h1, h⟩ := zbd h
  refine V_cV 8 rfl 1 [zI v1] [] dX9_send_5 cv_X9_94 (ctX8_isType (Nat.le_refl 1) h1) (Nat.le_trans (by decide) hd) rfl rfl (Nat.le_of_ble_eq_true rfl) zoki rfl ?_
  refine V_if_eq 11 27 rfl dX9_send_8 (by decide) (fun c => ?_) (fun c => ?_)
  · have h := zpos c h
    refine V_ldcw 30 rfl (v := (-2147483648)) dX9_send_27 tb_990 ?_
    exact V_iret dX9_send_30 rfl (hQ (((-2147483648), mm)) (zinj h))
  · have h := zneg c h
    refine V_iload_n 12 rfl 2 dX9_send_11 rfl rfl ?_
    obtain ⟨x3, h1, h⟩ := zbd h
    refine V_cS 15 rfl 0 [zI v2] [] dX9_send_12 cs_X9_130 (ctX9_isLetter (Nat.le_refl 0) h1) (Nat.le_trans (by decide) hd) rfl rfl (Nat.le_of_ble_eq_true rfl) zoki rfl ?_
    refine V_if_eq 18 27 rfl dX9_send_15 (by decide) (fun c => ?_) (fun c => ?_)
    · have h := zpos c h
      refine V_ldcw 30 rfl (v := (-2147483648)) dX9_send_27 tb_990 ?_
      exact V_iret dX9_send_30 rfl (hQ (((-2147483648), mm)) (zinj h))
    · have h := zneg c h
      refine V_iload_n 19 rfl 3 dX9_send_18 rfl rfl ?_
      refine V_if_lt 22 27 rfl dX9_send_19 (by decide) (fun c => ?_) (fun c => ?_)
      · have h := zpos c h
        refine V_ldcw 30 rfl (v := (-2147483648)) dX9_send_27 tb_990 ?_
        exact V_iret dX9_send_30 rfl (hQ (((-2147483648), mm)) (zinj h))
      · have h := zneg c h
        refine V_iload_n 23 rfl 3 dX9_send_22 rfl rfl ?_
        refine V_iconst 24 rfl (v := 5) dX9_send_23 (by decide) ?_
        refine V_icmp_le 27 31 rfl dX9_send_24 (by decide) (fun c => ?_) (fun c => ?_)
        · have h := zpos c h
          refine V_aload_n 32 rfl 0 dX9_send_31 rfl rfl ?_
          obtain ⟨x4, h1, h⟩ := zbd h
          refine V_cV 35 rfl 4 [] [] dX9_send_32 cv_X9_201 (ctX9_settle (Nat.le_refl 4) h1) (Nat.le_trans (by decide) hd) rfl rfl (Nat.le_of_ble_eq_true rfl) zokn rfl ?_
          refine V_aload_n 36 rfl 0 dX9_send_35 rfl rfl ?_
          refine V_iload_n 37 rfl 1 dX9_send_36 rfl rfl ?_
          refine V_iload_n 38 rfl 2 dX9_send_37 rfl rfl ?_
          obtain ⟨x5, h1, h⟩ := zbd h
          refine V_cV 41 rfl 44 [zI v1, zI v2] [] dX9_send_38 cv_X9_271 (ctX9_runSend (Nat.le_refl 44) h1) (Nat.le_trans (by decide) hd) rfl rfl (Nat.le_of_ble_eq_true rfl) zokn rfl ?_
          refine V_iload_n 42 rfl 3 dX9_send_41 rfl rfl ?_
          by_cases h_0 : v3 = 0
          · have h := zpos h_0 h
            refine V_tabIn 76 (off := 34) dX9_send_42 (by rw [h_0]; decide) (by rw [h_0]; decide) (by rw [h_0]; decide) (by decide) ?_
            refine V_aload_n 77 rfl 0 dX9_send_76 rfl rfl ?_
            refine V_getr 80 rfl 6 0 dX9_send_77 fl_X9_65 rfl rfl rfl ?_
            refine V_geti 83 rfl dX9_send_80 fl_X9_274 rfl ?_
            exact V_iret dX9_send_83 rfl (hQ (((gi x5 6 0 4), x5)) (zinj h))
          · have h := zneg h_0 h
            by_cases h_1 : v3 = 1
            · have h := zpos h_1 h
              refine V_tabIn 84 (off := 42) dX9_send_42 (by rw [h_1]; decide) (by rw [h_1]; decide) (by rw [h_1]; decide) (by decide) ?_
              refine V_aload_n 85 rfl 0 dX9_send_84 rfl rfl ?_
              refine V_getr 88 rfl 6 0 dX9_send_85 fl_X9_65 rfl rfl rfl ?_
              refine V_geti 91 rfl dX9_send_88 fl_X9_277 rfl ?_
              exact V_iret dX9_send_91 rfl (hQ (((gi x5 6 0 5), x5)) (zinj h))
            · have h := zneg h_1 h
              by_cases h_2 : v3 = 2
              · have h := zpos h_2 h
                refine V_tabIn 92 (off := 50) dX9_send_42 (by rw [h_2]; decide) (by rw [h_2]; decide) (by rw [h_2]; decide) (by decide) ?_
                refine V_aload_n 93 rfl 0 dX9_send_92 rfl rfl ?_
                refine V_getr 96 rfl 6 0 dX9_send_93 fl_X9_65 rfl rfl rfl ?_
                refine V_geti 99 rfl dX9_send_96 fl_X9_280 rfl ?_
                exact V_iret dX9_send_99 rfl (hQ (((gi x5 6 0 6), x5)) (zinj h))
              · have h := zneg h_2 h
                by_cases h_3 : v3 = 3
                · have h := zpos h_3 h
                  refine V_tabIn 100 (off := 58) dX9_send_42 (by rw [h_3]; decide) (by rw [h_3]; decide) (by rw [h_3]; decide) (by decide) ?_
                  refine V_aload_n 101 rfl 0 dX9_send_100 rfl rfl ?_
                  refine V_getr 104 rfl 6 0 dX9_send_101 fl_X9_65 rfl rfl rfl ?_
                  refine V_geti 107 rfl dX9_send_104 fl_X9_283 rfl ?_
                  exact V_iret dX9_send_107 rfl (hQ (((gi x5 6 0 7), x5)) (zinj h))
                · have h := zneg h_3 h
                  by_cases h_4 : v3 = 4
                  · have h := zpos h_4 h
                    refine V_tabIn 108 (off := 66) dX9_send_42 (by rw [h_4]; decide) (by rw [h_4]; decide) (by rw [h_4]; decide) (by decide) ?_
                    refine V_aload_n 109 rfl 0 dX9_send_108 rfl rfl ?_
                    refine V_getr 112 rfl 6 0 dX9_send_109 fl_X9_65 rfl rfl rfl ?_
                    refine V_geti 115 rfl dX9_send_112 fl_X9_286 rfl ?_
                    exact V_iret dX9_send_115 rfl (hQ (((gi x5 6 0 8), x5)) (zinj h))
                  · have h := zneg h_4 h
                    refine V_tabOut 116 dX9_send_42 (by have n0 := zne h_0; simp only [show ((0 : Int32)).toInt = 0 from by decide] at n0; have n1 := zne h_1; simp only [show ((1 : Int32)).toInt = 1 from by decide] at n1; have n2 := zne h_2; simp only [show ((2 : Int32)).toInt = 2 from by decide] at n2; have n3 := zne h_3; simp only [show ((3 : Int32)).toInt = 3 from by decide] at n3; have n4 := zne h_4; simp only [show ((4 : Int32)).toInt = 4 from by decide] at n4; omega) (by decide) ?_
                    refine V_aload_n 117 rfl 0 dX9_send_116 rfl rfl ?_
                    refine V_getr 120 rfl 6 0 dX9_send_117 fl_X9_65 rfl rfl rfl ?_
                    refine V_geti 123 rfl dX9_send_120 fl_X9_289 rfl ?_
                    exact V_iret dX9_send_123 rfl (hQ (((gi x5 6 0 9), x5)) (zinj h))
        · have h := zneg c h
          refine V_ldcw 30 rfl (v := (-2147483648)) dX9_send_27 tb_990 ?_
          exact V_iret dX9_send_30 rfl (hQ (((-2147483648), mm)) (zinj h))
theorem ctX9_send {E : zE} {d : Nat} (hd : 45 ≤ d) {v1 : Int32} {v2 : Int32} {v3 : Int32} {mm : zM} {o : (Int32 × zM)} (h : fX9_send v1 v2 v3 mm = some o) : zOC E yX9_send cX9_send 4 (some .int) d [zK 9 0, zI v1, zI v2, zI v3] mm (some (zI o.1)) o.2 :=
  zCT_of (by decide) (Nat.le_of_ble_eq_true rfl) (zk_k (zk_i (zk_i (zk_i zk_0)))) rfl (wX9_send hd h (fun r e => ⟨by rw [e], by rw [e]⟩))
def fX9_chain_L49 (v1 : Int32) (v2 : Int32) (v3 : Int32) (mm : zM) (s : (Int32 × Int32)) : Option ((Int32 × Int32) ⊕ (Int32 ⊕ (Int32 × zM))) :=
  zob (zin v1 12) (if (gi mm 18 0 (zn v1)) ≤ s.2 then (some (.inr (.inl s.1))) else (zob (zin v1 12) (zob (zin s.2 12) ((fX0_kindOf ((gi mm 17 (zn v1) (zn s.2))) v2 mm).bind (fun x5 => if x5 = 1 then (if s.1 = v3 then (some (.inr (.inr (((gi mm 17 (zn v1) (zn s.2)), mm))))) else (some (.inl ((s.1 + 1), (s.2 + 1))))) else (some (.inl (s.1, (s.2 + 1)))))))))
def fX9_chain (v1 : Int32) (v2 : Int32) (v3 : Int32) (mm : zM) : Option (Int32 × zM) :=
  (gr mm 9 2).bind (fun j1 => (fX8_isType j1 v1 mm).bind (fun x2 => if x2 = 0 then (some (((-1), mm))) else ((fX9_isLetter v2 mm).bind (fun x3 => if x3 = 0 then (some (((-1), mm))) else (if (-1) ≤ v3 then ((fX9_settle mm).bind (fun x4 => zob (zin v1 12) (if (gi x4 18 0 (zn v1)) = 0 then (some (((-1), x4))) else ((zloop (fX9_chain_L49 v1 v2 v3 x4) zF (0, 0)).bind (fun o8 => zcase o8 (fun y6 => if v3 = (-1) then (some ((y6, x4))) else (some (((-2), x4)))) (fun r7 => some r7)))))) else (some (((-1), mm))))))))
theorem wX9_chain_L49 {E : zE} {d : Nat} (hd : 5 ≤ d) {Q : Option zV → zM → Prop} {v1 : Int32} {v2 : Int32} {v3 : Int32} {mm : zM} {n : Nat} {s : (Int32 × Int32)} {o : Int32 ⊕ (Int32 × zM)} (h : zloop (fX9_chain_L49 v1 v2 v3 mm) n s = some o) (he : ∀ y : Int32, o = .inl y → V E RX9 cX9_chain 7 (some .int) d Q 109 [none, none, none, some (zI v3), some (zI y), none, none] [] mm) (hr : ∀ r : (Int32 × zM), o = .inr r → Q (some (zI r.1)) r.2) : V E RX9 cX9_chain 7 (some .int) d Q 49 [some (zK 9 0), some (zI v1), some (zI v2), some (zI v3), some (zI s.1), some (zI s.2), none] [] mm := by
  induction n generalizing s with
  | zero => exact (zloop_0 h).elim
  | succ n ih =>
    obtain ⟨o1, h1, hc1, he1⟩ := zloop_s h
    have kc : ∀ s' : (Int32 × Int32), o1 = .inl s' → V E RX9 cX9_chain 7 (some .int) d Q 49 [some (zK 9 0), some (zI v1), some (zI v2), some (zI v3), some (zI s'.1), some (zI s'.2), none] [] mm := fun s' e => ih (hc1 s' e)
    have ke : ∀ y : Int32, o1 = .inr (.inl y) → V E RX9 cX9_chain 7 (some .int) d Q 109 [none, none, none, some (zI v3), some (zI y), none, none] [] mm := fun y e => he y (he1 _ e)
    have kr : ∀ r : (Int32 × zM), o1 = .inr (.inr r) → Q (some (zI r.1)) r.2 := fun r e => hr r (he1 _ e)
    clear h hc1 he1 ih
    have h := h1
    clear h1
    unfold fX9_chain_L49 at h
    refine V_iload 51 rfl dX9_chain_49 rfl ?_
    refine V_aload_n 52 rfl 0 dX9_chain_51 rfl rfl ?_
    refine V_getr 55 rfl 2 0 dX9_chain_52 fl_X9_51 rfl rfl rfl ?_
    refine V_getr 58 rfl 18 0 dX9_chain_55 fl_X9_238 rfl rfl rfl ?_
    refine V_iload_n 59 rfl 1 dX9_chain_58 rfl rfl ?_
    obtain ⟨hi, h⟩ := zobd h
    refine V_iald 60 rfl dX9_chain_59 rfl hi ?_
    refine V_icmp_ge 63 109 rfl dX9_chain_60 (by decide) (fun c => ?_) (fun c => ?_)
    · have h := zpos c h
      exact V_w (zsub_n (zsub_n (zsub_n (zsub_s (zsub_s (zsub_n (zsub_s zsub_0))))))) (ke s.1 (zinj h))
    · have h := zneg c h
      refine V_aload_n 64 rfl 0 dX9_chain_63 rfl rfl ?_
      refine V_getr 67 rfl 2 0 dX9_chain_64 fl_X9_51 rfl rfl rfl ?_
      refine V_getr 70 rfl 16 0 dX9_chain_67 fl_X9_235 rfl rfl rfl ?_
      refine V_iload_n 71 rfl 1 dX9_chain_70 rfl rfl ?_
      obtain ⟨hi, h⟩ := zobd h
      refine V_aald 72 rfl 17 (zn v1) dX9_chain_71 rfl (by decide) (by decide) rfl rfl hi ?_
      refine V_iload 74 rfl dX9_chain_72 rfl ?_
      obtain ⟨hi, h⟩ := zobd h
      refine V_iald 75 rfl dX9_chain_74 rfl hi ?_
      refine V_istore 77 rfl (L' := [some (zK 9 0), some (zI v1), some (zI v2), some (zI v3), some (zI s.1), some (zI s.2), some (zI (gi mm 17 (zn v1) (zn s.2)))]) dX9_chain_75 (by decide) rfl ?_
      refine V_aload_n 78 rfl 0 dX9_chain_77 rfl rfl ?_
      refine V_getr 81 rfl 0 0 dX9_chain_78 fl_X9_44 rfl rfl rfl ?_
      refine V_iload 83 rfl dX9_chain_81 rfl ?_
      refine V_iload_n 84 rfl 2 dX9_chain_83 rfl rfl ?_
      obtain ⟨x5, h1, h⟩ := zbd h
      refine V_cV 87 rfl 0 [zI (gi mm 17 (zn v1) (zn s.2)), zI v2] [] dX9_chain_84 cv_X9_226 (ctX0_kindOf (Nat.le_refl 0) h1) (Nat.le_trans (by decide) hd) rfl rfl (Nat.le_of_ble_eq_true rfl) zoki rfl ?_
      refine V_iconst 88 rfl (v := 1) dX9_chain_87 (by decide) ?_
      refine V_icmp_ne 91 103 rfl dX9_chain_88 (by decide) (fun c => ?_) (fun c => ?_)
      · have h := zneg c h
        refine V_iinc 106 rfl (s.2 + 1) (L' := [some (zK 9 0), some (zI v1), some (zI v2), some (zI v3), some (zI s.1), some (zI (s.2 + 1)), some (zI (gi mm 17 (zn v1) (zn s.2)))]) dX9_chain_103 rfl rfl (by decide) rfl ?_
        refine V_goto 49 dX9_chain_106 (by decide) ?_
        exact V_w (zsub_s (zsub_s (zsub_s (zsub_s (zsub_s (zsub_s (zsub_n zsub_0))))))) (kc (s.1, (s.2 + 1)) (zinj h))
      · have h := zpos c h
        refine V_iload 93 rfl dX9_chain_91 rfl ?_
        refine V_iload_n 94 rfl 3 dX9_chain_93 rfl rfl ?_
        refine V_icmp_ne 97 100 rfl dX9_chain_94 (by decide) (fun c => ?_) (fun c => ?_)
        · have h := zneg c h
          refine V_iinc 103 rfl (s.1 + 1) (L' := [some (zK 9 0), some (zI v1), some (zI v2), some (zI v3), some (zI (s.1 + 1)), some (zI s.2), some (zI (gi mm 17 (zn v1) (zn s.2)))]) dX9_chain_100 rfl rfl (by decide) rfl ?_
          refine V_iinc 106 rfl (s.2 + 1) (L' := [some (zK 9 0), some (zI v1), some (zI v2), some (zI v3), some (zI (s.1 + 1)), some (zI (s.2 + 1)), some (zI (gi mm 17 (zn v1) (zn s.2)))]) dX9_chain_103 rfl rfl (by decide) rfl ?_
          refine V_goto 49 dX9_chain_106 (by decide) ?_
          exact V_w (zsub_s (zsub_s (zsub_s (zsub_s (zsub_s (zsub_s (zsub_n zsub_0))))))) (kc ((s.1 + 1), (s.2 + 1)) (zinj h))
        · have h := zpos c h
          refine V_iload 99 rfl dX9_chain_97 rfl ?_
          exact V_iret dX9_chain_99 rfl (kr (((gi mm 17 (zn v1) (zn s.2)), mm)) (zinj h))
theorem wX9_chain {E : zE} {d : Nat} (hd : 5 ≤ d) {Q : Option zV → zM → Prop} {v1 : Int32} {v2 : Int32} {v3 : Int32} {mm : zM} {o : (Int32 × zM)} (h : fX9_chain v1 v2 v3 mm = some o) (hQ : ∀ r, o = r → Q (some (zI r.1)) r.2) : V E RX9 cX9_chain 7 (some .int) d Q 0 [some (zK 9 0), some (zI v1), some (zI v2), some (zI v3), none, none, none] [] mm := by
  unfold fX9_chain at h
  refine V_aload_n 1 rfl 0 dX9_chain_0 rfl rfl ?_
  obtain ⟨j1, hj, h⟩ := zbd h
  refine V_getm 4 rfl 8 dX9_chain_1 fl_X9_16 rfl rfl hj ?_
  refine V_iload_n 5 rfl 1 dX9_chain_4 rfl rfl ?_
  obtain ⟨x2, h1, h⟩ := zbd h
  refine V_cV 8 rfl 1 [zI v1] [] dX9_chain_5 cv_X9_94 (ctX8_isType (Nat.le_refl 1) h1) (Nat.le_trans (by decide) hd) rfl rfl (Nat.le_of_ble_eq_true rfl) zoki rfl ?_
  refine V_if_eq 11 23 rfl dX9_chain_8 (by decide) (fun c => ?_) (fun c => ?_)
  · have h := zpos c h
    refine V_iconst 24 rfl (v := (-1)) dX9_chain_23 (by decide) ?_
    exact V_iret dX9_chain_24 rfl (hQ (((-1), mm)) (zinj h))
  · have h := zneg c h
    refine V_iload_n 12 rfl 2 dX9_chain_11 rfl rfl ?_
    obtain ⟨x3, h1, h⟩ := zbd h
    refine V_cS 15 rfl 0 [zI v2] [] dX9_chain_12 cs_X9_130 (ctX9_isLetter (Nat.le_refl 0) h1) (Nat.le_trans (by decide) hd) rfl rfl (Nat.le_of_ble_eq_true rfl) zoki rfl ?_
    refine V_if_eq 18 23 rfl dX9_chain_15 (by decide) (fun c => ?_) (fun c => ?_)
    · have h := zpos c h
      refine V_iconst 24 rfl (v := (-1)) dX9_chain_23 (by decide) ?_
      exact V_iret dX9_chain_24 rfl (hQ (((-1), mm)) (zinj h))
    · have h := zneg c h
      refine V_iload_n 19 rfl 3 dX9_chain_18 rfl rfl ?_
      refine V_iconst 20 rfl (v := (-1)) dX9_chain_19 (by decide) ?_
      refine V_icmp_ge 23 25 rfl dX9_chain_20 (by decide) (fun c => ?_) (fun c => ?_)
      · have h := zpos c h
        refine V_aload_n 26 rfl 0 dX9_chain_25 rfl rfl ?_
        obtain ⟨x4, h1, h⟩ := zbd h
        refine V_cV 29 rfl 4 [] [] dX9_chain_26 cv_X9_201 (ctX9_settle (Nat.le_refl 4) h1) (Nat.le_trans (by decide) hd) rfl rfl (Nat.le_of_ble_eq_true rfl) zokn rfl ?_
        refine V_aload_n 30 rfl 0 dX9_chain_29 rfl rfl ?_
        refine V_getr 33 rfl 2 0 dX9_chain_30 fl_X9_51 rfl rfl rfl ?_
        refine V_getr 36 rfl 18 0 dX9_chain_33 fl_X9_238 rfl rfl rfl ?_
        refine V_iload_n 37 rfl 1 dX9_chain_36 rfl rfl ?_
        obtain ⟨hi, h⟩ := zobd h
        refine V_iald 38 rfl dX9_chain_37 rfl hi ?_
        refine V_if_ne 41 43 rfl dX9_chain_38 (by decide) (fun c => ?_) (fun c => ?_)
        · have h := zneg c h
          refine V_iconst 44 rfl (v := 0) dX9_chain_43 (by decide) ?_
          refine V_istore 46 rfl (L' := [some (zK 9 0), some (zI v1), some (zI v2), some (zI v3), some (zI 0), none, none]) dX9_chain_44 (by decide) rfl ?_
          refine V_iconst 47 rfl (v := 0) dX9_chain_46 (by decide) ?_
          refine V_istore 49 rfl (L' := [some (zK 9 0), some (zI v1), some (zI v2), some (zI v3), some (zI 0), some (zI 0), none]) dX9_chain_47 (by decide) rfl ?_
          obtain ⟨o8, h1, h⟩ := zbd h
          refine wX9_chain_L49 hd h1 (fun y6 e => ?_) (fun r e => by have h := zcr_ e h; exact hQ r (zinj h))
          have h := zcl_ e h
          refine V_iload_n 110 rfl 3 dX9_chain_109 rfl rfl ?_
          refine V_iconst 111 rfl (v := (-1)) dX9_chain_110 (by decide) ?_
          refine V_icmp_ne 114 119 rfl dX9_chain_111 (by decide) (fun c => ?_) (fun c => ?_)
          · have h := zneg c h
            refine V_bipush 121 rfl (v := (-2)) dX9_chain_119 (by decide) ?_
            exact V_iret dX9_chain_121 rfl (hQ (((-2), x4)) (zinj h))
          · have h := zpos c h
            refine V_iload 116 rfl dX9_chain_114 rfl ?_
            refine V_goto 121 dX9_chain_116 (by decide) ?_
            exact V_iret dX9_chain_121 rfl (hQ ((y6, x4)) (zinj h))
        · have h := zpos c h
          refine V_iconst 42 rfl (v := (-1)) dX9_chain_41 (by decide) ?_
          exact V_iret dX9_chain_42 rfl (hQ (((-1), x4)) (zinj h))
      · have h := zneg c h
        refine V_iconst 24 rfl (v := (-1)) dX9_chain_23 (by decide) ?_
        exact V_iret dX9_chain_24 rfl (hQ (((-1), mm)) (zinj h))
theorem ctX9_chain {E : zE} {d : Nat} (hd : 5 ≤ d) {v1 : Int32} {v2 : Int32} {v3 : Int32} {mm : zM} {o : (Int32 × zM)} (h : fX9_chain v1 v2 v3 mm = some o) : zOC E yX9_chain cX9_chain 7 (some .int) d [zK 9 0, zI v1, zI v2, zI v3] mm (some (zI o.1)) o.2 :=
  zCT_of (by decide) (Nat.le_of_ble_eq_true rfl) (zk_k (zk_i (zk_i (zk_i zk_0)))) rfl (wX9_chain hd h (fun r e => ⟨by rw [e], by rw [e]⟩))
def fX9_bitsAlongLine_L5 (v1 : Int32) (v2 : Int32) (mm : zM) (s : (Int32 × Int32)) : Option ((Int32 × Int32) ⊕ (Int32 ⊕ Empty)) :=
  zob (zin v1 12) (if (gi mm 18 0 (zn v1)) ≤ s.2 then (some (.inr (.inl s.1))) else (zob (zin v1 12) (zob (zin s.2 12) ((fX0_bitsOf ((gi mm 17 (zn v1) (zn s.2))) v2 mm).bind (fun x1 => some (.inl ((s.1 ||| x1), (s.2 + 1))))))))
def fX9_bitsAlongLine (v1 : Int32) (v2 : Int32) (mm : zM) : Option Int32 :=
  (zloop (fX9_bitsAlongLine_L5 v1 v2 mm) zF (0, 0)).bind (fun o4 => zcase o4 (fun y2 => some y2) (fun r3 => r3.elim))
theorem wX9_bitsAlongLine_L5 {E : zE} {d : Nat} (hd : 2 ≤ d) {Q : Option zV → zM → Prop} {v1 : Int32} {v2 : Int32} {mm : zM} {n : Nat} {s : (Int32 × Int32)} {o : Int32 ⊕ Empty} (h : zloop (fX9_bitsAlongLine_L5 v1 v2 mm) n s = some o) (he : ∀ y : Int32, o = .inl y → V E RX9 cX9_bitsAlongLine 5 (some .int) d Q 48 [none, none, none, some (zI y), none] [] mm) : V E RX9 cX9_bitsAlongLine 5 (some .int) d Q 5 [some (zK 9 0), some (zI v1), some (zI v2), some (zI s.1), some (zI s.2)] [] mm := by
  induction n generalizing s with
  | zero => exact (zloop_0 h).elim
  | succ n ih =>
    obtain ⟨o1, h1, hc1, he1⟩ := zloop_s h
    have kc : ∀ s' : (Int32 × Int32), o1 = .inl s' → V E RX9 cX9_bitsAlongLine 5 (some .int) d Q 5 [some (zK 9 0), some (zI v1), some (zI v2), some (zI s'.1), some (zI s'.2)] [] mm := fun s' e => ih (hc1 s' e)
    have ke : ∀ y : Int32, o1 = .inr (.inl y) → V E RX9 cX9_bitsAlongLine 5 (some .int) d Q 48 [none, none, none, some (zI y), none] [] mm := fun y e => he y (he1 _ e)
    clear h hc1 he1 ih
    have h := h1
    clear h1
    unfold fX9_bitsAlongLine_L5 at h
    refine V_iload 7 rfl dX9_bitsAlongLine_5 rfl ?_
    refine V_aload_n 8 rfl 0 dX9_bitsAlongLine_7 rfl rfl ?_
    refine V_getr 11 rfl 2 0 dX9_bitsAlongLine_8 fl_X9_51 rfl rfl rfl ?_
    refine V_getr 14 rfl 18 0 dX9_bitsAlongLine_11 fl_X9_238 rfl rfl rfl ?_
    refine V_iload_n 15 rfl 1 dX9_bitsAlongLine_14 rfl rfl ?_
    obtain ⟨hi, h⟩ := zobd h
    refine V_iald 16 rfl dX9_bitsAlongLine_15 rfl hi ?_
    refine V_icmp_ge 19 48 rfl dX9_bitsAlongLine_16 (by decide) (fun c => ?_) (fun c => ?_)
    · have h := zpos c h
      exact V_w (zsub_n (zsub_n (zsub_n (zsub_s (zsub_n zsub_0))))) (ke s.1 (zinj h))
    · have h := zneg c h
      refine V_iload_n 20 rfl 3 dX9_bitsAlongLine_19 rfl rfl ?_
      refine V_aload_n 21 rfl 0 dX9_bitsAlongLine_20 rfl rfl ?_
      refine V_getr 24 rfl 0 0 dX9_bitsAlongLine_21 fl_X9_44 rfl rfl rfl ?_
      refine V_aload_n 25 rfl 0 dX9_bitsAlongLine_24 rfl rfl ?_
      refine V_getr 28 rfl 2 0 dX9_bitsAlongLine_25 fl_X9_51 rfl rfl rfl ?_
      refine V_getr 31 rfl 16 0 dX9_bitsAlongLine_28 fl_X9_235 rfl rfl rfl ?_
      refine V_iload_n 32 rfl 1 dX9_bitsAlongLine_31 rfl rfl ?_
      obtain ⟨hi, h⟩ := zobd h
      refine V_aald 33 rfl 17 (zn v1) dX9_bitsAlongLine_32 rfl (by decide) (by decide) rfl rfl hi ?_
      refine V_iload 35 rfl dX9_bitsAlongLine_33 rfl ?_
      obtain ⟨hi, h⟩ := zobd h
      refine V_iald 36 rfl dX9_bitsAlongLine_35 rfl hi ?_
      refine V_iload_n 37 rfl 2 dX9_bitsAlongLine_36 rfl rfl ?_
      obtain ⟨x1, h1, h⟩ := zbd h
      refine V_cV 40 rfl 1 [zI (gi mm 17 (zn v1) (zn s.2)), zI v2] [zI s.1] dX9_bitsAlongLine_37 cv_X9_220 (ctX0_bitsOf (Nat.le_refl 1) h1) (Nat.le_trans (by decide) hd) rfl rfl (Nat.le_of_ble_eq_true rfl) zoki rfl ?_
      refine V_ior 41 rfl dX9_bitsAlongLine_40 ?_
      refine V_istore_n 42 rfl 3 (L' := [some (zK 9 0), some (zI v1), some (zI v2), some (zI (s.1 ||| x1)), some (zI s.2)]) dX9_bitsAlongLine_41 rfl (by decide) rfl ?_
      refine V_iinc 45 rfl (s.2 + 1) (L' := [some (zK 9 0), some (zI v1), some (zI v2), some (zI (s.1 ||| x1)), some (zI (s.2 + 1))]) dX9_bitsAlongLine_42 rfl rfl (by decide) rfl ?_
      refine V_goto 5 dX9_bitsAlongLine_45 (by decide) ?_
      exact kc ((s.1 ||| x1), (s.2 + 1)) (zinj h)
theorem wX9_bitsAlongLine {E : zE} {d : Nat} (hd : 2 ≤ d) {Q : Option zV → zM → Prop} {v1 : Int32} {v2 : Int32} {mm : zM} {o : Int32} (h : fX9_bitsAlongLine v1 v2 mm = some o) (hQ : ∀ r, o = r → Q (some (zI r)) mm) : V E RX9 cX9_bitsAlongLine 5 (some .int) d Q 0 [some (zK 9 0), some (zI v1), some (zI v2), none, none] [] mm := by
  unfold fX9_bitsAlongLine at h
  refine V_iconst 1 rfl (v := 0) dX9_bitsAlongLine_0 (by decide) ?_
  refine V_istore_n 2 rfl 3 (L' := [some (zK 9 0), some (zI v1), some (zI v2), some (zI 0), none]) dX9_bitsAlongLine_1 rfl (by decide) rfl ?_
  refine V_iconst 3 rfl (v := 0) dX9_bitsAlongLine_2 (by decide) ?_
  refine V_istore 5 rfl (L' := [some (zK 9 0), some (zI v1), some (zI v2), some (zI 0), some (zI 0)]) dX9_bitsAlongLine_3 (by decide) rfl ?_
  obtain ⟨o4, h1, h⟩ := zbd h
  refine wX9_bitsAlongLine_L5 hd h1 (fun y2 e => ?_)
  have h := zcl_ e h
  refine V_iload_n 49 rfl 3 dX9_bitsAlongLine_48 rfl rfl ?_
  exact V_iret dX9_bitsAlongLine_49 rfl (hQ y2 (zinj h))
theorem ctX9_bitsAlongLine {E : zE} {d : Nat} (hd : 2 ≤ d) {v1 : Int32} {v2 : Int32} {mm : zM} {o : Int32} (h : fX9_bitsAlongLine v1 v2 mm = some o) : zOC E yX9_bitsAlongLine cX9_bitsAlongLine 5 (some .int) d [zK 9 0, zI v1, zI v2] mm (some (zI o)) mm :=
  zCT_of (by decide) (Nat.le_of_ble_eq_true rfl) (zk_k (zk_i (zk_i zk_0))) rfl (wX9_bitsAlongLine hd h (fun r e => ⟨by rw [e], rfl⟩))
def fX9_lackedBits (v1 : Int32) (mm : zM) : Option Int32 :=
  (fX9_bitsAlongLine v1 2 mm).bind (fun x1 => (fX9_bitsAlongLine v1 1 mm).bind (fun x2 => (fX9_bitsAlongLine v1 3 mm).bind (fun x3 => some ((((x1 &&& ((x2 ^^^ ((-1)))))) &&& ((x3 ^^^ ((-1)))))))))
theorem wX9_lackedBits {E : zE} {d : Nat} (hd : 3 ≤ d) {Q : Option zV → zM → Prop} {v1 : Int32} {mm : zM} {o : Int32} (h : fX9_lackedBits v1 mm = some o) (hQ : ∀ r, o = r → Q (some (zI r)) mm) : V E RX9 cX9_lackedBits 3 (some .int) d Q 0 [some (zK 9 0), some (zI v1), none] [] mm := by
  unfold fX9_lackedBits at h
  refine V_aload_n 1 rfl 0 dX9_lackedBits_0 rfl rfl ?_
  refine V_iload_n 2 rfl 1 dX9_lackedBits_1 rfl rfl ?_
  refine V_iconst 3 rfl (v := 2) dX9_lackedBits_2 (by decide) ?_
  obtain ⟨x1, h1, h⟩ := zbd h
  refine V_cV 6 rfl 2 [zI v1, zI 2] [] dX9_lackedBits_3 cv_X9_299 (ctX9_bitsAlongLine (Nat.le_refl 2) h1) (Nat.le_trans (by decide) hd) rfl rfl (Nat.le_of_ble_eq_true rfl) zoki rfl ?_
  refine V_istore_n 7 rfl 2 (L' := [some (zK 9 0), some (zI v1), some (zI x1)]) dX9_lackedBits_6 rfl (by decide) rfl ?_
  refine V_iload_n 8 rfl 2 dX9_lackedBits_7 rfl rfl ?_
  refine V_aload_n 9 rfl 0 dX9_lackedBits_8 rfl rfl ?_
  refine V_iload_n 10 rfl 1 dX9_lackedBits_9 rfl rfl ?_
  refine V_iconst 11 rfl (v := 1) dX9_lackedBits_10 (by decide) ?_
  obtain ⟨x2, h1, h⟩ := zbd h
  refine V_cV 14 rfl 2 [zI v1, zI 1] [zI x1] dX9_lackedBits_11 cv_X9_299 (ctX9_bitsAlongLine (Nat.le_refl 2) h1) (Nat.le_trans (by decide) hd) rfl rfl (Nat.le_of_ble_eq_true rfl) zoki rfl ?_
  refine V_iconst 15 rfl (v := (-1)) dX9_lackedBits_14 (by decide) ?_
  refine V_ixor 16 rfl dX9_lackedBits_15 ?_
  refine V_iand 17 rfl dX9_lackedBits_16 ?_
  refine V_aload_n 18 rfl 0 dX9_lackedBits_17 rfl rfl ?_
  refine V_iload_n 19 rfl 1 dX9_lackedBits_18 rfl rfl ?_
  refine V_iconst 20 rfl (v := 3) dX9_lackedBits_19 (by decide) ?_
  obtain ⟨x3, h1, h⟩ := zbd h
  refine V_cV 23 rfl 2 [zI v1, zI 3] [zI (x1 &&& ((x2 ^^^ ((-1)))))] dX9_lackedBits_20 cv_X9_299 (ctX9_bitsAlongLine (Nat.le_refl 2) h1) (Nat.le_trans (by decide) hd) rfl rfl (Nat.le_of_ble_eq_true rfl) zoki rfl ?_
  refine V_iconst 24 rfl (v := (-1)) dX9_lackedBits_23 (by decide) ?_
  refine V_ixor 25 rfl dX9_lackedBits_24 ?_
  refine V_iand 26 rfl dX9_lackedBits_25 ?_
  exact V_iret dX9_lackedBits_26 rfl (hQ ((((x1 &&& ((x2 ^^^ ((-1)))))) &&& ((x3 ^^^ ((-1)))))) (zinj h))
theorem ctX9_lackedBits {E : zE} {d : Nat} (hd : 3 ≤ d) {v1 : Int32} {mm : zM} {o : Int32} (h : fX9_lackedBits v1 mm = some o) : zOC E yX9_lackedBits cX9_lackedBits 3 (some .int) d [zK 9 0, zI v1] mm (some (zI o)) mm :=
  zCT_of (by decide) (Nat.le_of_ble_eq_true rfl) (zk_k (zk_i zk_0)) rfl (wX9_lackedBits hd h (fun r e => ⟨by rw [e], rfl⟩))
def fX9_lacks (v1 : Int32) (mm : zM) : Option (Int32 × zM) :=
  (gr mm 9 2).bind (fun j1 => (fX8_isType j1 v1 mm).bind (fun x2 => if x2 = 0 then (some (((-1), mm))) else ((fX9_settle mm).bind (fun x3 => zob (zin v1 12) (if (gi x3 18 0 (zn v1)) = 0 then (some (((-1), x3))) else ((fX9_lackedBits v1 x3).bind (fun x4 => some ((x4, x3)))))))))
theorem wX9_lacks {E : zE} {d : Nat} (hd : 5 ≤ d) {Q : Option zV → zM → Prop} {v1 : Int32} {mm : zM} {o : (Int32 × zM)} (h : fX9_lacks v1 mm = some o) (hQ : ∀ r, o = r → Q (some (zI r.1)) r.2) : V E RX9 cX9_lacks 2 (some .int) d Q 0 [some (zK 9 0), some (zI v1)] [] mm := by
  unfold fX9_lacks at h
  refine V_aload_n 1 rfl 0 dX9_lacks_0 rfl rfl ?_
  obtain ⟨j1, hj, h⟩ := zbd h
  refine V_getm 4 rfl 8 dX9_lacks_1 fl_X9_16 rfl rfl hj ?_
  refine V_iload_n 5 rfl 1 dX9_lacks_4 rfl rfl ?_
  obtain ⟨x2, h1, h⟩ := zbd h
  refine V_cV 8 rfl 1 [zI v1] [] dX9_lacks_5 cv_X9_94 (ctX8_isType (Nat.le_refl 1) h1) (Nat.le_trans (by decide) hd) rfl rfl (Nat.le_of_ble_eq_true rfl) zoki rfl ?_
  refine V_if_ne 11 13 rfl dX9_lacks_8 (by decide) (fun c => ?_) (fun c => ?_)
  · have h := zneg c h
    refine V_aload_n 14 rfl 0 dX9_lacks_13 rfl rfl ?_
    obtain ⟨x3, h1, h⟩ := zbd h
    refine V_cV 17 rfl 4 [] [] dX9_lacks_14 cv_X9_201 (ctX9_settle (Nat.le_refl 4) h1) (Nat.le_trans (by decide) hd) rfl rfl (Nat.le_of_ble_eq_true rfl) zokn rfl ?_
    refine V_aload_n 18 rfl 0 dX9_lacks_17 rfl rfl ?_
    refine V_getr 21 rfl 2 0 dX9_lacks_18 fl_X9_51 rfl rfl rfl ?_
    refine V_getr 24 rfl 18 0 dX9_lacks_21 fl_X9_238 rfl rfl rfl ?_
    refine V_iload_n 25 rfl 1 dX9_lacks_24 rfl rfl ?_
    obtain ⟨hi, h⟩ := zobd h
    refine V_iald 26 rfl dX9_lacks_25 rfl hi ?_
    refine V_if_ne 29 33 rfl dX9_lacks_26 (by decide) (fun c => ?_) (fun c => ?_)
    · have h := zneg c h
      refine V_aload_n 34 rfl 0 dX9_lacks_33 rfl rfl ?_
      refine V_iload_n 35 rfl 1 dX9_lacks_34 rfl rfl ?_
      obtain ⟨x4, h1, h⟩ := zbd h
      refine V_cV 38 rfl 3 [zI v1] [] dX9_lacks_35 cv_X9_296 (ctX9_lackedBits (Nat.le_refl 3) h1) (Nat.le_trans (by decide) hd) rfl rfl (Nat.le_of_ble_eq_true rfl) zoki rfl ?_
      exact V_iret dX9_lacks_38 rfl (hQ ((x4, x3)) (zinj h))
    · have h := zpos c h
      refine V_iconst 30 rfl (v := (-1)) dX9_lacks_29 (by decide) ?_
      refine V_goto 38 dX9_lacks_30 (by decide) ?_
      exact V_iret dX9_lacks_38 rfl (hQ (((-1), x3)) (zinj h))
  · have h := zpos c h
    refine V_iconst 12 rfl (v := (-1)) dX9_lacks_11 (by decide) ?_
    exact V_iret dX9_lacks_12 rfl (hQ (((-1), mm)) (zinj h))
theorem ctX9_lacks {E : zE} {d : Nat} (hd : 5 ≤ d) {v1 : Int32} {mm : zM} {o : (Int32 × zM)} (h : fX9_lacks v1 mm = some o) : zOC E yX9_lacks cX9_lacks 2 (some .int) d [zK 9 0, zI v1] mm (some (zI o.1)) o.2 :=
  zCT_of (by decide) (Nat.le_of_ble_eq_true rfl) (zk_k (zk_i zk_0)) rfl (wX9_lacks hd h (fun r e => ⟨by rw [e], by rw [e]⟩))
