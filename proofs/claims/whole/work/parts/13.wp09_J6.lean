set_option maxRecDepth 100000 in
theorem w_J6_bitCount_0f7a4_0 {G : dh_G} {x0 : Int32} {h : dh_H} {Q : Option Value → dh_H → Prop} (k : Q (some (.int ((((((((x0 - (((x0.toUInt32 >>> ((nI 1).toUInt32 &&& Int32.toUInt32 31)).toInt32) &&& (nI 1431655765))) &&& (nI 858993459)) + ((((x0 - (((x0.toUInt32 >>> ((nI 1).toUInt32 &&& Int32.toUInt32 31)).toInt32) &&& (nI 1431655765))).toUInt32 >>> ((nI 2).toUInt32 &&& Int32.toUInt32 31)).toInt32) &&& (nI 858993459))) + (((((x0 - (((x0.toUInt32 >>> ((nI 1).toUInt32 &&& Int32.toUInt32 31)).toInt32) &&& (nI 1431655765))) &&& (nI 858993459)) + ((((x0 - (((x0.toUInt32 >>> ((nI 1).toUInt32 &&& Int32.toUInt32 31)).toInt32) &&& (nI 1431655765))).toUInt32 >>> ((nI 2).toUInt32 &&& Int32.toUInt32 31)).toInt32) &&& (nI 858993459))).toUInt32 >>> ((nI 4).toUInt32 &&& Int32.toUInt32 31)).toInt32)) &&& (nI 252645135)) + (((((((x0 - (((x0.toUInt32 >>> ((nI 1).toUInt32 &&& Int32.toUInt32 31)).toInt32) &&& (nI 1431655765))) &&& (nI 858993459)) + ((((x0 - (((x0.toUInt32 >>> ((nI 1).toUInt32 &&& Int32.toUInt32 31)).toInt32) &&& (nI 1431655765))).toUInt32 >>> ((nI 2).toUInt32 &&& Int32.toUInt32 31)).toInt32) &&& (nI 858993459))) + (((((x0 - (((x0.toUInt32 >>> ((nI 1).toUInt32 &&& Int32.toUInt32 31)).toInt32) &&& (nI 1431655765))) &&& (nI 858993459)) + ((((x0 - (((x0.toUInt32 >>> ((nI 1).toUInt32 &&& Int32.toUInt32 31)).toInt32) &&& (nI 1431655765))).toUInt32 >>> ((nI 2).toUInt32 &&& Int32.toUInt32 31)).toInt32) &&& (nI 858993459))).toUInt32 >>> ((nI 4).toUInt32 &&& Int32.toUInt32 31)).toInt32)) &&& (nI 252645135)).toUInt32 >>> ((nI 8).toUInt32 &&& Int32.toUInt32 31)).toInt32)) + ((((((((x0 - (((x0.toUInt32 >>> ((nI 1).toUInt32 &&& Int32.toUInt32 31)).toInt32) &&& (nI 1431655765))) &&& (nI 858993459)) + ((((x0 - (((x0.toUInt32 >>> ((nI 1).toUInt32 &&& Int32.toUInt32 31)).toInt32) &&& (nI 1431655765))).toUInt32 >>> ((nI 2).toUInt32 &&& Int32.toUInt32 31)).toInt32) &&& (nI 858993459))) + (((((x0 - (((x0.toUInt32 >>> ((nI 1).toUInt32 &&& Int32.toUInt32 31)).toInt32) &&& (nI 1431655765))) &&& (nI 858993459)) + ((((x0 - (((x0.toUInt32 >>> ((nI 1).toUInt32 &&& Int32.toUInt32 31)).toInt32) &&& (nI 1431655765))).toUInt32 >>> ((nI 2).toUInt32 &&& Int32.toUInt32 31)).toInt32) &&& (nI 858993459))).toUInt32 >>> ((nI 4).toUInt32 &&& Int32.toUInt32 31)).toInt32)) &&& (nI 252645135)) + (((((((x0 - (((x0.toUInt32 >>> ((nI 1).toUInt32 &&& Int32.toUInt32 31)).toInt32) &&& (nI 1431655765))) &&& (nI 858993459)) + ((((x0 - (((x0.toUInt32 >>> ((nI 1).toUInt32 &&& Int32.toUInt32 31)).toInt32) &&& (nI 1431655765))).toUInt32 >>> ((nI 2).toUInt32 &&& Int32.toUInt32 31)).toInt32) &&& (nI 858993459))) + (((((x0 - (((x0.toUInt32 >>> ((nI 1).toUInt32 &&& Int32.toUInt32 31)).toInt32) &&& (nI 1431655765))) &&& (nI 858993459)) + ((((x0 - (((x0.toUInt32 >>> ((nI 1).toUInt32 &&& Int32.toUInt32 31)).toInt32) &&& (nI 1431655765))).toUInt32 >>> ((nI 2).toUInt32 &&& Int32.toUInt32 31)).toInt32) &&& (nI 858993459))).toUInt32 >>> ((nI 4).toUInt32 &&& Int32.toUInt32 31)).toInt32)) &&& (nI 252645135)).toUInt32 >>> ((nI 8).toUInt32 &&& Int32.toUInt32 31)).toInt32)).toUInt32 >>> ((nI 16).toUInt32 &&& Int32.toUInt32 31)).toInt32)) &&& (nI 63)))) h) : dh_J G mJ6_bitCount_0f7a4 0 [some (.int (x0))] [] h Q := by
  refine a_iload_n dJ6_bitCount_0f7a4_0 rfl ?_
  refine a_iload_n dJ6_bitCount_0f7a4_1 rfl ?_
  refine a_iconst dJ6_bitCount_0f7a4_2 (v := nI 1) (by decide) ?_
  refine a_iushr dJ6_bitCount_0f7a4_3 ?_
  refine a_ldcw dJ6_bitCount_0f7a4_4 (v := nI 1431655765) kK_RJ6_265 ?_
  refine a_iand dJ6_bitCount_0f7a4_7 ?_
  refine a_isub dJ6_bitCount_0f7a4_8 ?_
  refine a_istore_n dJ6_bitCount_0f7a4_9 (by decide) rfl ?_
  refine a_iload_n dJ6_bitCount_0f7a4_10 rfl ?_
  refine a_ldcw dJ6_bitCount_0f7a4_11 (v := nI 858993459) kK_RJ6_266 ?_
  refine a_iand dJ6_bitCount_0f7a4_14 ?_
  refine a_iload_n dJ6_bitCount_0f7a4_15 rfl ?_
  refine a_iconst dJ6_bitCount_0f7a4_16 (v := nI 2) (by decide) ?_
  refine a_iushr dJ6_bitCount_0f7a4_17 ?_
  refine a_ldcw dJ6_bitCount_0f7a4_18 (v := nI 858993459) kK_RJ6_266 ?_
  refine a_iand dJ6_bitCount_0f7a4_21 ?_
  refine a_iadd dJ6_bitCount_0f7a4_22 ?_
  refine a_istore_n dJ6_bitCount_0f7a4_23 (by decide) rfl ?_
  refine a_iload_n dJ6_bitCount_0f7a4_24 rfl ?_
  refine a_iload_n dJ6_bitCount_0f7a4_25 rfl ?_
  refine a_iconst dJ6_bitCount_0f7a4_26 (v := nI 4) (by decide) ?_
  refine a_iushr dJ6_bitCount_0f7a4_27 ?_
  refine a_iadd dJ6_bitCount_0f7a4_28 ?_
  refine a_ldcw dJ6_bitCount_0f7a4_29 (v := nI 252645135) kK_RJ6_267 ?_
  refine a_iand dJ6_bitCount_0f7a4_32 ?_
  refine a_istore_n dJ6_bitCount_0f7a4_33 (by decide) rfl ?_
  refine a_iload_n dJ6_bitCount_0f7a4_34 rfl ?_
  refine a_iload_n dJ6_bitCount_0f7a4_35 rfl ?_
  refine a_bipush dJ6_bitCount_0f7a4_36 (v := nI 8) (by decide) ?_
  refine a_iushr dJ6_bitCount_0f7a4_38 ?_
  refine a_iadd dJ6_bitCount_0f7a4_39 ?_
  refine a_istore_n dJ6_bitCount_0f7a4_40 (by decide) rfl ?_
  refine a_iload_n dJ6_bitCount_0f7a4_41 rfl ?_
  refine a_iload_n dJ6_bitCount_0f7a4_42 rfl ?_
  refine a_bipush dJ6_bitCount_0f7a4_43 (v := nI 16) (by decide) ?_
  refine a_iushr dJ6_bitCount_0f7a4_45 ?_
  refine a_iadd dJ6_bitCount_0f7a4_46 ?_
  refine a_istore_n dJ6_bitCount_0f7a4_47 (by decide) rfl ?_
  refine a_iload_n dJ6_bitCount_0f7a4_48 rfl ?_
  refine a_bipush dJ6_bitCount_0f7a4_49 (v := nI 63) (by decide) ?_
  refine a_iand dJ6_bitCount_0f7a4_51 ?_
  exact a_iret dJ6_bitCount_0f7a4_52 rfl k
theorem e_J6_bitCount_0f7a4 {G : dh_G} {x0 : Int32} {h : dh_H} {Q : Option Value → dh_H → Prop} (k : Q (some (.int ((((((((x0 - (((x0.toUInt32 >>> ((nI 1).toUInt32 &&& Int32.toUInt32 31)).toInt32) &&& (nI 1431655765))) &&& (nI 858993459)) + ((((x0 - (((x0.toUInt32 >>> ((nI 1).toUInt32 &&& Int32.toUInt32 31)).toInt32) &&& (nI 1431655765))).toUInt32 >>> ((nI 2).toUInt32 &&& Int32.toUInt32 31)).toInt32) &&& (nI 858993459))) + (((((x0 - (((x0.toUInt32 >>> ((nI 1).toUInt32 &&& Int32.toUInt32 31)).toInt32) &&& (nI 1431655765))) &&& (nI 858993459)) + ((((x0 - (((x0.toUInt32 >>> ((nI 1).toUInt32 &&& Int32.toUInt32 31)).toInt32) &&& (nI 1431655765))).toUInt32 >>> ((nI 2).toUInt32 &&& Int32.toUInt32 31)).toInt32) &&& (nI 858993459))).toUInt32 >>> ((nI 4).toUInt32 &&& Int32.toUInt32 31)).toInt32)) &&& (nI 252645135)) + (((((((x0 - (((x0.toUInt32 >>> ((nI 1).toUInt32 &&& Int32.toUInt32 31)).toInt32) &&& (nI 1431655765))) &&& (nI 858993459)) + ((((x0 - (((x0.toUInt32 >>> ((nI 1).toUInt32 &&& Int32.toUInt32 31)).toInt32) &&& (nI 1431655765))).toUInt32 >>> ((nI 2).toUInt32 &&& Int32.toUInt32 31)).toInt32) &&& (nI 858993459))) + (((((x0 - (((x0.toUInt32 >>> ((nI 1).toUInt32 &&& Int32.toUInt32 31)).toInt32) &&& (nI 1431655765))) &&& (nI 858993459)) + ((((x0 - (((x0.toUInt32 >>> ((nI 1).toUInt32 &&& Int32.toUInt32 31)).toInt32) &&& (nI 1431655765))).toUInt32 >>> ((nI 2).toUInt32 &&& Int32.toUInt32 31)).toInt32) &&& (nI 858993459))).toUInt32 >>> ((nI 4).toUInt32 &&& Int32.toUInt32 31)).toInt32)) &&& (nI 252645135)).toUInt32 >>> ((nI 8).toUInt32 &&& Int32.toUInt32 31)).toInt32)) + ((((((((x0 - (((x0.toUInt32 >>> ((nI 1).toUInt32 &&& Int32.toUInt32 31)).toInt32) &&& (nI 1431655765))) &&& (nI 858993459)) + ((((x0 - (((x0.toUInt32 >>> ((nI 1).toUInt32 &&& Int32.toUInt32 31)).toInt32) &&& (nI 1431655765))).toUInt32 >>> ((nI 2).toUInt32 &&& Int32.toUInt32 31)).toInt32) &&& (nI 858993459))) + (((((x0 - (((x0.toUInt32 >>> ((nI 1).toUInt32 &&& Int32.toUInt32 31)).toInt32) &&& (nI 1431655765))) &&& (nI 858993459)) + ((((x0 - (((x0.toUInt32 >>> ((nI 1).toUInt32 &&& Int32.toUInt32 31)).toInt32) &&& (nI 1431655765))).toUInt32 >>> ((nI 2).toUInt32 &&& Int32.toUInt32 31)).toInt32) &&& (nI 858993459))).toUInt32 >>> ((nI 4).toUInt32 &&& Int32.toUInt32 31)).toInt32)) &&& (nI 252645135)) + (((((((x0 - (((x0.toUInt32 >>> ((nI 1).toUInt32 &&& Int32.toUInt32 31)).toInt32) &&& (nI 1431655765))) &&& (nI 858993459)) + ((((x0 - (((x0.toUInt32 >>> ((nI 1).toUInt32 &&& Int32.toUInt32 31)).toInt32) &&& (nI 1431655765))).toUInt32 >>> ((nI 2).toUInt32 &&& Int32.toUInt32 31)).toInt32) &&& (nI 858993459))) + (((((x0 - (((x0.toUInt32 >>> ((nI 1).toUInt32 &&& Int32.toUInt32 31)).toInt32) &&& (nI 1431655765))) &&& (nI 858993459)) + ((((x0 - (((x0.toUInt32 >>> ((nI 1).toUInt32 &&& Int32.toUInt32 31)).toInt32) &&& (nI 1431655765))).toUInt32 >>> ((nI 2).toUInt32 &&& Int32.toUInt32 31)).toInt32) &&& (nI 858993459))).toUInt32 >>> ((nI 4).toUInt32 &&& Int32.toUInt32 31)).toInt32)) &&& (nI 252645135)).toUInt32 >>> ((nI 8).toUInt32 &&& Int32.toUInt32 31)).toInt32)).toUInt32 >>> ((nI 16).toUInt32 &&& Int32.toUInt32 31)).toInt32)) &&& (nI 63)))) h) : dh_C G mJ6_bitCount_0f7a4 [.int (x0)] h Q := dh_C_of [some (.int (x0))] (by decide) (Nat.le_of_ble_eq_true rfl) rfl (w_J6_bitCount_0f7a4_0 k)
