set_option maxRecDepth 100000 in
theorem w_X1_draw_0 {G : dh_G} {x1 : Int32} {h : dh_H} {Q : Option Value → dh_H → Prop} (k : ((x1 ≤ 0) → Q (some (.int (nI 0))) (dh_s h 54 0 ((((((h 54 0).toInt64) * (1103515245 : Int64)) + (12345 : Int64)) &&& (2147483647 : Int64)).toInt32))) ∧ ((¬ x1 ≤ 0) → (¬ nI 65536 = 0) ∧ (¬ x1 = 0) ∧ Q (some (.int ((((((((h 54 0).toInt64) * (1103515245 : Int64)) + (12345 : Int64)) &&& (2147483647 : Int64)).toInt32) / (nI 65536)) - (((((((h 54 0).toInt64) * (1103515245 : Int64)) + (12345 : Int64)) &&& (2147483647 : Int64)).toInt32) / (nI 65536)) / x1 * x1))) (dh_s h 54 0 ((((((h 54 0).toInt64) * (1103515245 : Int64)) + (12345 : Int64)) &&& (2147483647 : Int64)).toInt32)))) : dh_J G mX1_draw 0 [some (.ref 54), some (.int (x1))] [] h Q := by
  refine a_aload_n dX1_draw_0 rfl ?_
  refine a_aload_n dX1_draw_1 rfl ?_
  refine a_getI dX1_draw_2 fF_RX1_7 rfl rfl ?_
  refine a_i2l dX1_draw_5 ?_
  refine a_ldc2 dX1_draw_6 (v := 1103515245) kKL_RX1_13 ?_
  refine a_lmul dX1_draw_9 ?_
  refine a_ldc2 dX1_draw_10 (v := 12345) kKL_RX1_15 ?_
  refine a_ladd dX1_draw_13 ?_
  refine a_ldc2 dX1_draw_14 (v := 2147483647) kKL_RX1_17 ?_
  refine a_land dX1_draw_17 ?_
  refine a_l2i dX1_draw_18 ?_
  refine a_put dX1_draw_19 fF_RX1_7 rfl rfl rfl rfl ?_
  refine a_iload_n dX1_draw_22 rfl ?_
  refine a_if_le 38 dX1_draw_23 (by decide) (fun c1 => ?_) (fun c1 => ?_)
  · replace k := k.1 c1
    refine a_iconst dX1_draw_38 (v := nI 0) (by decide) ?_
    exact a_iret dX1_draw_39 rfl k
  · replace k := k.2 c1
    refine a_aload_n dX1_draw_26 rfl ?_
    refine a_getI dX1_draw_27 fF_RX1_7 rfl rfl ?_
    refine a_ldc dX1_draw_30 (v := nI 65536) kK_RX1_19 ?_
    obtain ⟨e2, k⟩ := k
    refine a_idiv dX1_draw_32 e2 ?_
    refine a_iload_n dX1_draw_33 rfl ?_
    obtain ⟨e3, k⟩ := k
    refine a_irem dX1_draw_34 e3 ?_
    refine a_goto 39 dX1_draw_35 (by decide) ?_
    exact a_iret dX1_draw_39 rfl k
theorem e_X1_draw {G : dh_G} {x1 : Int32} {h : dh_H} {Q : Option Value → dh_H → Prop} (k : ((x1 ≤ 0) → Q (some (.int (nI 0))) (dh_s h 54 0 ((((((h 54 0).toInt64) * (1103515245 : Int64)) + (12345 : Int64)) &&& (2147483647 : Int64)).toInt32))) ∧ ((¬ x1 ≤ 0) → (¬ nI 65536 = 0) ∧ (¬ x1 = 0) ∧ Q (some (.int ((((((((h 54 0).toInt64) * (1103515245 : Int64)) + (12345 : Int64)) &&& (2147483647 : Int64)).toInt32) / (nI 65536)) - (((((((h 54 0).toInt64) * (1103515245 : Int64)) + (12345 : Int64)) &&& (2147483647 : Int64)).toInt32) / (nI 65536)) / x1 * x1))) (dh_s h 54 0 ((((((h 54 0).toInt64) * (1103515245 : Int64)) + (12345 : Int64)) &&& (2147483647 : Int64)).toInt32)))) : dh_C G mX1_draw [.ref 54, .int (x1)] h Q := dh_C_of [some (.ref 54), some (.int (x1))] (by decide) (Nat.le_of_ble_eq_true rfl) rfl (w_X1_draw_0 k)
