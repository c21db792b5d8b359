set_option maxRecDepth 100000 in
theorem w_X10_in_0 {G : dh_G} {x0 x1 x2 : Int32} {h : dh_H} {Q : Option Value → dh_H → Prop} (k : ((x0 < x1) → Q (some (.int (nI 0))) h) ∧ ((¬ x0 < x1) → ((x2 < x0) → Q (some (.int (nI 0))) h) ∧ ((¬ x2 < x0) → Q (some (.int (nI 1))) h))) : dh_J G mX10_in 0 [some (.int (x0)), some (.int (x1)), some (.int (x2))] [] h Q := by
  refine a_iload_n dX10_in_0 rfl ?_
  refine a_iload_n dX10_in_1 rfl ?_
  refine a_icmp_lt 14 dX10_in_2 (by decide) (fun c1 => ?_) (fun c1 => ?_)
  · replace k := k.1 c1
    refine a_iconst dX10_in_14 (v := nI 0) (by decide) ?_
    exact a_zret dX10_in_15 rfl (by decide) k
  · replace k := k.2 c1
    refine a_iload_n dX10_in_5 rfl ?_
    refine a_iload_n dX10_in_6 rfl ?_
    refine a_icmp_gt 14 dX10_in_7 (by decide) (fun c2 => ?_) (fun c2 => ?_)
    · replace k := k.1 c2
      refine a_iconst dX10_in_14 (v := nI 0) (by decide) ?_
      exact a_zret dX10_in_15 rfl (by decide) k
    · replace k := k.2 c2
      refine a_iconst dX10_in_10 (v := nI 1) (by decide) ?_
      refine a_goto 15 dX10_in_11 (by decide) ?_
      exact a_zret dX10_in_15 rfl (by decide) k
theorem e_X10_in {G : dh_G} {x0 x1 x2 : Int32} {h : dh_H} {Q : Option Value → dh_H → Prop} (k : ((x0 < x1) → Q (some (.int (nI 0))) h) ∧ ((¬ x0 < x1) → ((x2 < x0) → Q (some (.int (nI 0))) h) ∧ ((¬ x2 < x0) → Q (some (.int (nI 1))) h))) : dh_C G mX10_in [.int (x0), .int (x1), .int (x2)] h Q := dh_C_of [some (.int (x0)), some (.int (x1)), some (.int (x2))] (by decide) (Nat.le_of_ble_eq_true rfl) rfl (w_X10_in_0 k)
set_option maxRecDepth 100000 in
theorem w_X10_has_0 {G : dh_G} {x0 x1 : Int32} {h : dh_H} {Q : Option Value → dh_H → Prop} (k : ((¬ ((x0 >>> (x1 &&& 31)) &&& (nI 1)) = (nI 1)) → Q (some (.int (nI 0))) h) ∧ ((((x0 >>> (x1 &&& 31)) &&& (nI 1)) = (nI 1)) → Q (some (.int (nI 1))) h)) : dh_J G mX10_has 0 [some (.int (x0)), some (.int (x1))] [] h Q := by
  refine a_iload_n dX10_has_0 rfl ?_
  refine a_iload_n dX10_has_1 rfl ?_
  refine a_ishr dX10_has_2 ?_
  refine a_iconst dX10_has_3 (v := nI 1) (by decide) ?_
  refine a_iand dX10_has_4 ?_
  refine a_iconst dX10_has_5 (v := nI 1) (by decide) ?_
  refine a_icmp_ne 13 dX10_has_6 (by decide) (fun c1 => ?_) (fun c1 => ?_)
  · replace k := k.1 c1
    refine a_iconst dX10_has_13 (v := nI 0) (by decide) ?_
    exact a_zret dX10_has_14 rfl (by decide) k
  · replace k := k.2 c1
    refine a_iconst dX10_has_9 (v := nI 1) (by decide) ?_
    refine a_goto 14 dX10_has_10 (by decide) ?_
    exact a_zret dX10_has_14 rfl (by decide) k
theorem e_X10_has {G : dh_G} {x0 x1 : Int32} {h : dh_H} {Q : Option Value → dh_H → Prop} (k : ((¬ ((x0 >>> (x1 &&& 31)) &&& (nI 1)) = (nI 1)) → Q (some (.int (nI 0))) h) ∧ ((((x0 >>> (x1 &&& 31)) &&& (nI 1)) = (nI 1)) → Q (some (.int (nI 1))) h)) : dh_C G mX10_has [.int (x0), .int (x1)] h Q := dh_C_of [some (.int (x0)), some (.int (x1))] (by decide) (Nat.le_of_ble_eq_true rfl) rfl (w_X10_has_0 k)
set_option maxRecDepth 100000 in
theorem w_X10_isChild_0 {G : dh_G} {x1 : Int32} {h : dh_H} {Q : Option Value → dh_H → Prop} (k : dh_C G mX10_in [.int (x1), .int (nI 0), .int ((h 61 19) - (nI 1))] h (fun v h1 => dh_J G mX10_isChild 11 [none, none] (v.toList ++ []) h1 Q)) : dh_J G mX10_isChild 0 [some (.ref 61), some (.int (x1))] [] h Q := by
  refine a_iload_n dX10_isChild_0 rfl ?_
  refine a_iconst dX10_isChild_1 (v := nI 0) (by decide) ?_
  refine a_aload_n dX10_isChild_2 rfl ?_
  refine a_getI dX10_isChild_3 fF_RX10_66 rfl rfl ?_
  refine a_iconst dX10_isChild_6 (v := nI 1) (by decide) ?_
  refine a_isub dX10_isChild_7 ?_
  refine dh_drop 0 ?_
  refine dh_drop 1 ?_
  exact a_callS3 dX10_isChild_8 (dh_Y_up cY_RX10_69 (by decide)) (Nat.le_of_ble_eq_true rfl) k
theorem e_X10_isChild {G : dh_G} {x1 : Int32} {h : dh_H} {Q : Option Value → dh_H → Prop} (k : dh_C G mX10_in [.int (x1), .int (nI 0), .int ((h 61 19) - (nI 1))] h (fun v h1 => dh_J G mX10_isChild 11 [none, none] (v.toList ++ []) h1 Q)) : dh_C G mX10_isChild [.ref 61, .int (x1)] h Q := dh_C_of [some (.ref 61), some (.int (x1))] (by decide) (Nat.le_of_ble_eq_true rfl) rfl (w_X10_isChild_0 k)
set_option maxRecDepth 100000 in
theorem w_X10_isChild_11 {G : dh_G} {s0 : Int32} {h : dh_H} {Q : Option Value → dh_H → Prop} (k : ((s0) = 0 ∨ (s0) = 1) ∧ Q (some (.int (s0))) h) : dh_J G mX10_isChild 11 [none, none] [.int (s0)] h Q := by
  obtain ⟨e1, k⟩ := k
  exact a_zret dX10_isChild_11 rfl (dh_b1 e1) k
set_option maxRecDepth 100000 in
theorem w_X10_isDummy_0 {G : dh_G} {x1 : Int32} {h : dh_H} {Q : Option Value → dh_H → Prop} (k : dh_C G mX10_in [.int (x1), .int (nI 0), .int ((h 61 20) - (nI 1))] h (fun v h1 => dh_J G mX10_isDummy 11 [none, none] (v.toList ++ []) h1 Q)) : dh_J G mX10_isDummy 0 [some (.ref 61), some (.int (x1))] [] h Q := by
  refine a_iload_n dX10_isDummy_0 rfl ?_
  refine a_iconst dX10_isDummy_1 (v := nI 0) (by decide) ?_
  refine a_aload_n dX10_isDummy_2 rfl ?_
  refine a_getI dX10_isDummy_3 fF_RX10_73 rfl rfl ?_
  refine a_iconst dX10_isDummy_6 (v := nI 1) (by decide) ?_
  refine a_isub dX10_isDummy_7 ?_
  refine dh_drop 0 ?_
  refine dh_drop 1 ?_
  exact a_callS3 dX10_isDummy_8 (dh_Y_up cY_RX10_69 (by decide)) (Nat.le_of_ble_eq_true rfl) k
theorem e_X10_isDummy {G : dh_G} {x1 : Int32} {h : dh_H} {Q : Option Value → dh_H → Prop} (k : dh_C G mX10_in [.int (x1), .int (nI 0), .int ((h 61 20) - (nI 1))] h (fun v h1 => dh_J G mX10_isDummy 11 [none, none] (v.toList ++ []) h1 Q)) : dh_C G mX10_isDummy [.ref 61, .int (x1)] h Q := dh_C_of [some (.ref 61), some (.int (x1))] (by decide) (Nat.le_of_ble_eq_true rfl) rfl (w_X10_isDummy_0 k)
set_option maxRecDepth 100000 in
theorem w_X10_isDummy_11 {G : dh_G} {s0 : Int32} {h : dh_H} {Q : Option Value → dh_H → Prop} (k : ((s0) = 0 ∨ (s0) = 1) ∧ Q (some (.int (s0))) h) : dh_J G mX10_isDummy 11 [none, none] [.int (s0)] h Q := by
  obtain ⟨e1, k⟩ := k
  exact a_zret dX10_isDummy_11 rfl (dh_b1 e1) k
set_option maxRecDepth 100000 in
theorem w_X10_feed_0 {G : dh_G} {x1 : Int32} {h : dh_H} {Q : Option Value → dh_H → Prop} (k : dh_C G mX10_in [.int (x1), .int (nI 0), .int (nI 255)] h (fun v h1 => dh_J G mX10_feed 8 [some (.ref 61), some (.int (x1))] (v.toList ++ []) h1 Q)) : dh_J G mX10_feed 0 [some (.ref 61), some (.int (x1))] [] h Q := by
  refine a_iload_n dX10_feed_0 rfl ?_
  refine a_iconst dX10_feed_1 (v := nI 0) (by decide) ?_
  refine a_sipush dX10_feed_2 (v := nI 255) (by decide) ?_
  exact a_callS3 dX10_feed_5 (dh_Y_up cY_RX10_69 (by decide)) (Nat.le_of_ble_eq_true rfl) k
theorem e_X10_feed {G : dh_G} {x1 : Int32} {h : dh_H} {Q : Option Value → dh_H → Prop} (k : dh_C G mX10_in [.int (x1), .int (nI 0), .int (nI 255)] h (fun v h1 => dh_J G mX10_feed 8 [some (.ref 61), some (.int (x1))] (v.toList ++ []) h1 Q)) : dh_C G mX10_feed [.ref 61, .int (x1)] h Q := dh_C_of [some (.ref 61), some (.int (x1))] (by decide) (Nat.le_of_ble_eq_true rfl) rfl (w_X10_feed_0 k)
set_option maxRecDepth 100000 in
theorem w_X10_feed_8 {G : dh_G} {x1 s0 : Int32} {h : dh_H} {Q : Option Value → dh_H → Prop} (k : ((¬ s0 = 0) → ((¬ (h 61 0) = (nI 240)) → (vp_in (h 61 0) 240) ∧ Q (some (.int ((h 61 0) + (nI 1)))) (dh_s (dh_s h 62 (h 61 0).toNatClampNeg x1) 61 0 ((h 61 0) + (nI 1)))) ∧ (((h 61 0) = (nI 240)) → Q (some (.int ((-1000000004 : Int32)))) h)) ∧ ((s0 = 0) → Q (some (.int ((-1000000002 : Int32)))) h)) : dh_J G mX10_feed 8 [some (.ref 61), some (.int (x1))] [.int (s0)] h Q := by
  refine a_if_ne 14 dX10_feed_8 (by decide) (fun c1 => ?_) (fun c1 => ?_)
  · replace k := k.1 c1
    refine a_aload_n dX10_feed_14 rfl ?_
    refine a_getI dX10_feed_15 fF_RX10_77 rfl rfl ?_
    refine a_sipush dX10_feed_18 (v := nI 240) (by decide) ?_
    refine a_icmp_ne 27 dX10_feed_21 (by decide) (fun c2 => ?_) (fun c2 => ?_)
    · replace k := k.1 c2
      refine a_aload_n dX10_feed_27 rfl ?_
      refine a_getR dX10_feed_28 fF_RX10_7 rfl rfl ?_
      refine a_aload_n dX10_feed_31 rfl ?_
      refine a_getI dX10_feed_32 fF_RX10_77 rfl rfl ?_
      refine a_iload_n dX10_feed_35 rfl ?_
      obtain ⟨e3, k⟩ := k
      refine a_iast dX10_feed_36 rfl e3 ?_
      refine a_aload_n dX10_feed_37 rfl ?_
      refine a_dup dX10_feed_38 rfl ?_
      refine a_getI dX10_feed_39 fF_RX10_77 rfl rfl ?_
      refine a_iconst dX10_feed_42 (v := nI 1) (by decide) ?_
      refine a_iadd dX10_feed_43 ?_
      refine a_put dX10_feed_44 fF_RX10_77 rfl rfl rfl rfl ?_
      refine a_aload_n dX10_feed_47 rfl ?_
      refine a_getI dX10_feed_48 fF_RX10_77 rfl rfl ?_
      exact a_iret dX10_feed_51 rfl k
    · replace k := k.2 c2
      refine a_ldc dX10_feed_24 (v := (-1000000004 : Int32)) kK_RX10_80 ?_
      exact a_iret dX10_feed_26 rfl k
  · replace k := k.2 c1
    refine a_ldc dX10_feed_11 (v := (-1000000002 : Int32)) kK_RX10_76 ?_
    exact a_iret dX10_feed_13 rfl k
set_option maxRecDepth 100000 in
theorem w_X10_nextToken_0 {G : dh_G} {h : dh_H} {Q : Option Value → dh_H → Prop} (k : (((h 61 0) ≤ (h 61 2)) → ((¬ (h 61 2) = (h 61 0)) → (vp_in (h 61 2) 240) ∧ dh_C G mX10_in [.int (h 62 (h 61 2).toNatClampNeg), .int (nI 48), .int (nI 57)] (dh_s (dh_s (dh_s h 61 3 (h 61 2)) 61 5 (nI 0)) 61 6 (nI 0)) (fun v h1 => dh_J G mX10_nextToken 92 [some (.ref 61)] (v.toList ++ []) h1 Q)) ∧ (((h 61 2) = (h 61 0)) → Q none (dh_s (dh_s (dh_s (dh_s h 61 3 (h 61 2)) 61 5 (nI 0)) 61 6 (nI 0)) 61 4 (-2 : Int32)))) ∧ ((¬ (h 61 0) ≤ (h 61 2)) → (vp_in (h 61 2) 240) ∧ ((¬ (h 62 (h 61 2).toNatClampNeg) = (nI 32)) → ((¬ (h 61 2) = (h 61 0)) → (vp_in (h 61 2) 240) ∧ dh_C G mX10_in [.int (h 62 (h 61 2).toNatClampNeg), .int (nI 48), .int (nI 57)] (dh_s (dh_s (dh_s h 61 3 (h 61 2)) 61 5 (nI 0)) 61 6 (nI 0)) (fun v h1 => dh_J G mX10_nextToken 92 [some (.ref 61)] (v.toList ++ []) h1 Q)) ∧ (((h 61 2) = (h 61 0)) → Q none (dh_s (dh_s (dh_s (dh_s h 61 3 (h 61 2)) 61 5 (nI 0)) 61 6 (nI 0)) 61 4 (-2 : Int32)))) ∧ (((h 62 (h 61 2).toNatClampNeg) = (nI 32)) → dh_J G mX10_nextToken 0 [some (.ref 61)] [] (dh_s h 61 2 ((h 61 2) + (nI 1))) Q))) : dh_J G mX10_nextToken 0 [some (.ref 61)] [] h Q := by
  refine a_aload_n dX10_nextToken_0 rfl ?_
  refine a_getI dX10_nextToken_1 fF_RX10_81 rfl rfl ?_
  refine a_aload_n dX10_nextToken_4 rfl ?_
  refine a_getI dX10_nextToken_5 fF_RX10_77 rfl rfl ?_
  refine a_icmp_ge 38 dX10_nextToken_8 (by decide) (fun c1 => ?_) (fun c1 => ?_)
  · replace k := k.1 c1
    refine a_aload_n dX10_nextToken_38 rfl ?_
    refine a_aload_n dX10_nextToken_39 rfl ?_
    refine a_getI dX10_nextToken_40 fF_RX10_81 rfl rfl ?_
    refine a_put dX10_nextToken_43 fF_RX10_84 rfl rfl rfl rfl ?_
    refine a_aload_n dX10_nextToken_46 rfl ?_
    refine a_iconst dX10_nextToken_47 (v := nI 0) (by decide) ?_
    refine a_put dX10_nextToken_48 fF_RX10_87 rfl rfl rfl rfl ?_
    refine a_aload_n dX10_nextToken_51 rfl ?_
    refine a_iconst dX10_nextToken_52 (v := nI 0) (by decide) ?_
    refine a_put dX10_nextToken_53 fF_RX10_90 rfl rfl rfl rfl ?_
    refine a_aload_n dX10_nextToken_56 rfl ?_
    refine a_getI dX10_nextToken_57 fF_RX10_81 rfl rfl ?_
    refine a_aload_n dX10_nextToken_60 rfl ?_
    refine a_getI dX10_nextToken_61 fF_RX10_77 rfl rfl ?_
    refine a_icmp_ne 76 dX10_nextToken_64 (by decide) (fun c2 => ?_) (fun c2 => ?_)
    · replace k := k.1 c2
      refine a_aload_n dX10_nextToken_76 rfl ?_
      refine a_getR dX10_nextToken_77 fF_RX10_7 rfl rfl ?_
      refine a_aload_n dX10_nextToken_80 rfl ?_
      refine a_getI dX10_nextToken_81 fF_RX10_81 rfl rfl ?_
      obtain ⟨e3, k⟩ := k
      refine a_iald dX10_nextToken_84 rfl e3 ?_
      refine a_bipush dX10_nextToken_85 (v := nI 48) (by decide) ?_
      refine a_bipush dX10_nextToken_87 (v := nI 57) (by decide) ?_
      exact a_callS3 dX10_nextToken_89 (dh_Y_up cY_RX10_69 (by decide)) (Nat.le_of_ble_eq_true rfl) k
    · replace k := k.2 c2
      refine a_aload_n dX10_nextToken_67 rfl ?_
      refine a_bipush dX10_nextToken_68 (v := (-2 : Int32)) (by decide) ?_
      refine a_put dX10_nextToken_70 fF_RX10_93 rfl rfl rfl rfl ?_
      refine a_goto 218 dX10_nextToken_73 (by decide) ?_
      exact a_vret dX10_nextToken_218 rfl k
  · replace k := k.2 c1
    refine a_aload_n dX10_nextToken_11 rfl ?_
    refine a_getR dX10_nextToken_12 fF_RX10_7 rfl rfl ?_
    refine a_aload_n dX10_nextToken_15 rfl ?_
    refine a_getI dX10_nextToken_16 fF_RX10_81 rfl rfl ?_
    obtain ⟨e4, k⟩ := k
    refine a_iald dX10_nextToken_19 rfl e4 ?_
    refine a_bipush dX10_nextToken_20 (v := nI 32) (by decide) ?_
    refine a_icmp_ne 38 dX10_nextToken_22 (by decide) (fun c5 => ?_) (fun c5 => ?_)
    · replace k := k.1 c5
      refine a_aload_n dX10_nextToken_38 rfl ?_
      refine a_aload_n dX10_nextToken_39 rfl ?_
      refine a_getI dX10_nextToken_40 fF_RX10_81 rfl rfl ?_
      refine a_put dX10_nextToken_43 fF_RX10_84 rfl rfl rfl rfl ?_
      refine a_aload_n dX10_nextToken_46 rfl ?_
      refine a_iconst dX10_nextToken_47 (v := nI 0) (by decide) ?_
      refine a_put dX10_nextToken_48 fF_RX10_87 rfl rfl rfl rfl ?_
      refine a_aload_n dX10_nextToken_51 rfl ?_
      refine a_iconst dX10_nextToken_52 (v := nI 0) (by decide) ?_
      refine a_put dX10_nextToken_53 fF_RX10_90 rfl rfl rfl rfl ?_
      refine a_aload_n dX10_nextToken_56 rfl ?_
      refine a_getI dX10_nextToken_57 fF_RX10_81 rfl rfl ?_
      refine a_aload_n dX10_nextToken_60 rfl ?_
      refine a_getI dX10_nextToken_61 fF_RX10_77 rfl rfl ?_
      refine a_icmp_ne 76 dX10_nextToken_64 (by decide) (fun c6 => ?_) (fun c6 => ?_)
      · replace k := k.1 c6
        refine a_aload_n dX10_nextToken_76 rfl ?_
        refine a_getR dX10_nextToken_77 fF_RX10_7 rfl rfl ?_
        refine a_aload_n dX10_nextToken_80 rfl ?_
        refine a_getI dX10_nextToken_81 fF_RX10_81 rfl rfl ?_
        obtain ⟨e7, k⟩ := k
        refine a_iald dX10_nextToken_84 rfl e7 ?_
        refine a_bipush dX10_nextToken_85 (v := nI 48) (by decide) ?_
        refine a_bipush dX10_nextToken_87 (v := nI 57) (by decide) ?_
        exact a_callS3 dX10_nextToken_89 (dh_Y_up cY_RX10_69 (by decide)) (Nat.le_of_ble_eq_true rfl) k
      · replace k := k.2 c6
        refine a_aload_n dX10_nextToken_67 rfl ?_
        refine a_bipush dX10_nextToken_68 (v := (-2 : Int32)) (by decide) ?_
        refine a_put dX10_nextToken_70 fF_RX10_93 rfl rfl rfl rfl ?_
        refine a_goto 218 dX10_nextToken_73 (by decide) ?_
        exact a_vret dX10_nextToken_218 rfl k
    · replace k := k.2 c5
      refine a_aload_n dX10_nextToken_25 rfl ?_
      refine a_dup dX10_nextToken_26 rfl ?_
      refine a_getI dX10_nextToken_27 fF_RX10_81 rfl rfl ?_
      refine a_iconst dX10_nextToken_30 (v := nI 1) (by decide) ?_
      refine a_iadd dX10_nextToken_31 ?_
      refine a_put dX10_nextToken_32 fF_RX10_81 rfl rfl rfl rfl ?_
      refine a_goto 0 dX10_nextToken_35 (by decide) ?_
      exact k
theorem e_X10_nextToken {G : dh_G} {h : dh_H} {Q : Option Value → dh_H → Prop} (k : (((h 61 0) ≤ (h 61 2)) → ((¬ (h 61 2) = (h 61 0)) → (vp_in (h 61 2) 240) ∧ dh_C G mX10_in [.int (h 62 (h 61 2).toNatClampNeg), .int (nI 48), .int (nI 57)] (dh_s (dh_s (dh_s h 61 3 (h 61 2)) 61 5 (nI 0)) 61 6 (nI 0)) (fun v h1 => dh_J G mX10_nextToken 92 [some (.ref 61)] (v.toList ++ []) h1 Q)) ∧ (((h 61 2) = (h 61 0)) → Q none (dh_s (dh_s (dh_s (dh_s h 61 3 (h 61 2)) 61 5 (nI 0)) 61 6 (nI 0)) 61 4 (-2 : Int32)))) ∧ ((¬ (h 61 0) ≤ (h 61 2)) → (vp_in (h 61 2) 240) ∧ ((¬ (h 62 (h 61 2).toNatClampNeg) = (nI 32)) → ((¬ (h 61 2) = (h 61 0)) → (vp_in (h 61 2) 240) ∧ dh_C G mX10_in [.int (h 62 (h 61 2).toNatClampNeg), .int (nI 48), .int (nI 57)] (dh_s (dh_s (dh_s h 61 3 (h 61 2)) 61 5 (nI 0)) 61 6 (nI 0)) (fun v h1 => dh_J G mX10_nextToken 92 [some (.ref 61)] (v.toList ++ []) h1 Q)) ∧ (((h 61 2) = (h 61 0)) → Q none (dh_s (dh_s (dh_s (dh_s h 61 3 (h 61 2)) 61 5 (nI 0)) 61 6 (nI 0)) 61 4 (-2 : Int32)))) ∧ (((h 62 (h 61 2).toNatClampNeg) = (nI 32)) → dh_J G mX10_nextToken 0 [some (.ref 61)] [] (dh_s h 61 2 ((h 61 2) + (nI 1))) Q))) : dh_C G mX10_nextToken [.ref 61] h Q := dh_C_of [some (.ref 61)] (by decide) (Nat.le_of_ble_eq_true rfl) rfl (w_X10_nextToken_0 k)
set_option maxRecDepth 100000 in
theorem w_X10_nextToken_92 {G : dh_G} {s0 : Int32} {h : dh_H} {Q : Option Value → dh_H → Prop} (k : ((s0 = 0) → (vp_in (h 61 2) 240) ∧ Q none (dh_s (dh_s h 61 4 (h 62 (h 61 2).toNatClampNeg)) 61 2 ((h 61 2) + (nI 1)))) ∧ ((¬ s0 = 0) → dh_J G mX10_nextToken 95 [some (.ref 61)] [] h Q)) : dh_J G mX10_nextToken 92 [some (.ref 61)] [.int (s0)] h Q := by
  refine a_if_eq 195 dX10_nextToken_92 (by decide) (fun c1 => ?_) (fun c1 => ?_)
  · replace k := k.1 c1
    refine a_aload_n dX10_nextToken_195 rfl ?_
    refine a_aload_n dX10_nextToken_196 rfl ?_
    refine a_getR dX10_nextToken_197 fF_RX10_7 rfl rfl ?_
    refine a_aload_n dX10_nextToken_200 rfl ?_
    refine a_getI dX10_nextToken_201 fF_RX10_81 rfl rfl ?_
    obtain ⟨e2, k⟩ := k
    refine a_iald dX10_nextToken_204 rfl e2 ?_
    refine a_put dX10_nextToken_205 fF_RX10_93 rfl rfl rfl rfl ?_
    refine a_aload_n dX10_nextToken_208 rfl ?_
    refine a_dup dX10_nextToken_209 rfl ?_
    refine a_getI dX10_nextToken_210 fF_RX10_81 rfl rfl ?_
    refine a_iconst dX10_nextToken_213 (v := nI 1) (by decide) ?_
    refine a_iadd dX10_nextToken_214 ?_
    refine a_put dX10_nextToken_215 fF_RX10_81 rfl rfl rfl rfl ?_
    exact a_vret dX10_nextToken_218 rfl k
  · replace k := k.2 c1
    exact k
set_option maxRecDepth 100000 in
theorem w_X10_nextToken_95 {G : dh_G} {h : dh_H} {Q : Option Value → dh_H → Prop} (k : (((h 61 0) ≤ (h 61 2)) → Q none (dh_s h 61 4 (-1 : Int32))) ∧ ((¬ (h 61 0) ≤ (h 61 2)) → (vp_in (h 61 2) 240) ∧ dh_C G mX10_in [.int (h 62 (h 61 2).toNatClampNeg), .int (nI 48), .int (nI 57)] h (fun v h1 => dh_J G mX10_nextToken 122 [some (.ref 61)] (v.toList ++ []) h1 Q))) : dh_J G mX10_nextToken 95 [some (.ref 61)] [] h Q := by
  refine a_aload_n dX10_nextToken_95 rfl ?_
  refine a_getI dX10_nextToken_96 fF_RX10_81 rfl rfl ?_
  refine a_aload_n dX10_nextToken_99 rfl ?_
  refine a_getI dX10_nextToken_100 fF_RX10_77 rfl rfl ?_
  refine a_icmp_ge 187 dX10_nextToken_103 (by decide) (fun c1 => ?_) (fun c1 => ?_)
  · replace k := k.1 c1
    refine a_aload_n dX10_nextToken_187 rfl ?_
    refine a_iconst dX10_nextToken_188 (v := (-1 : Int32)) (by decide) ?_
    refine a_put dX10_nextToken_189 fF_RX10_93 rfl rfl rfl rfl ?_
    refine a_goto 218 dX10_nextToken_192 (by decide) ?_
    exact a_vret dX10_nextToken_218 rfl k
  · replace k := k.2 c1
    refine a_aload_n dX10_nextToken_106 rfl ?_
    refine a_getR dX10_nextToken_107 fF_RX10_7 rfl rfl ?_
    refine a_aload_n dX10_nextToken_110 rfl ?_
    refine a_getI dX10_nextToken_111 fF_RX10_81 rfl rfl ?_
    obtain ⟨e2, k⟩ := k
    refine a_iald dX10_nextToken_114 rfl e2 ?_
    refine a_bipush dX10_nextToken_115 (v := nI 48) (by decide) ?_
    refine a_bipush dX10_nextToken_117 (v := nI 57) (by decide) ?_
    exact a_callS3 dX10_nextToken_119 (dh_Y_up cY_RX10_69 (by decide)) (Nat.le_of_ble_eq_true rfl) k
set_option maxRecDepth 100000 in
theorem w_X10_nextToken_122 {G : dh_G} {s0 : Int32} {h : dh_H} {Q : Option Value → dh_H → Prop} (k : ((s0 = 0) → Q none (dh_s h 61 4 (-1 : Int32))) ∧ ((¬ s0 = 0) → (((nI 3) ≤ (h 61 6)) → dh_J G mX10_nextToken 95 [some (.ref 61)] [] (dh_s (dh_s (dh_s h 61 5 (h 61 5)) 61 6 ((h 61 6) + (nI 1))) 61 2 ((h 61 2) + (nI 1))) Q) ∧ ((¬ (nI 3) ≤ (h 61 6)) → (vp_in (h 61 2) 240) ∧ dh_J G mX10_nextToken 95 [some (.ref 61)] [] (dh_s (dh_s (dh_s h 61 5 ((((nI 10) * (h 61 5)) + (h 62 (h 61 2).toNatClampNeg)) - (nI 48))) 61 6 ((h 61 6) + (nI 1))) 61 2 ((h 61 2) + (nI 1))) Q))) : dh_J G mX10_nextToken 122 [some (.ref 61)] [.int (s0)] h Q := by
  refine a_if_eq 187 dX10_nextToken_122 (by decide) (fun c1 => ?_) (fun c1 => ?_)
  · replace k := k.1 c1
    refine a_aload_n dX10_nextToken_187 rfl ?_
    refine a_iconst dX10_nextToken_188 (v := (-1 : Int32)) (by decide) ?_
    refine a_put dX10_nextToken_189 fF_RX10_93 rfl rfl rfl rfl ?_
    refine a_goto 218 dX10_nextToken_192 (by decide) ?_
    exact a_vret dX10_nextToken_218 rfl k
  · replace k := k.2 c1
    refine a_aload_n dX10_nextToken_125 rfl ?_
    refine a_aload_n dX10_nextToken_126 rfl ?_
    refine a_getI dX10_nextToken_127 fF_RX10_90 rfl rfl ?_
    refine a_iconst dX10_nextToken_130 (v := nI 3) (by decide) ?_
    refine a_icmp_ge 157 dX10_nextToken_131 (by decide) (fun c2 => ?_) (fun c2 => ?_)
    · replace k := k.1 c2
      refine a_aload_n dX10_nextToken_157 rfl ?_
      refine a_getI dX10_nextToken_158 fF_RX10_87 rfl rfl ?_
      refine a_put dX10_nextToken_161 fF_RX10_87 rfl rfl rfl rfl ?_
      refine a_aload_n dX10_nextToken_164 rfl ?_
      refine a_dup dX10_nextToken_165 rfl ?_
      refine a_getI dX10_nextToken_166 fF_RX10_90 rfl rfl ?_
      refine a_iconst dX10_nextToken_169 (v := nI 1) (by decide) ?_
      refine a_iadd dX10_nextToken_170 ?_
      refine a_put dX10_nextToken_171 fF_RX10_90 rfl rfl rfl rfl ?_
      refine a_aload_n dX10_nextToken_174 rfl ?_
      refine a_dup dX10_nextToken_175 rfl ?_
      refine a_getI dX10_nextToken_176 fF_RX10_81 rfl rfl ?_
      refine a_iconst dX10_nextToken_179 (v := nI 1) (by decide) ?_
      refine a_iadd dX10_nextToken_180 ?_
      refine a_put dX10_nextToken_181 fF_RX10_81 rfl rfl rfl rfl ?_
      refine a_goto 95 dX10_nextToken_184 (by decide) ?_
      exact k
    · replace k := k.2 c2
      refine a_bipush dX10_nextToken_134 (v := nI 10) (by decide) ?_
      refine a_aload_n dX10_nextToken_136 rfl ?_
      refine a_getI dX10_nextToken_137 fF_RX10_87 rfl rfl ?_
      refine a_imul dX10_nextToken_140 ?_
      refine a_aload_n dX10_nextToken_141 rfl ?_
      refine a_getR dX10_nextToken_142 fF_RX10_7 rfl rfl ?_
      refine a_aload_n dX10_nextToken_145 rfl ?_
      refine a_getI dX10_nextToken_146 fF_RX10_81 rfl rfl ?_
      obtain ⟨e3, k⟩ := k
      refine a_iald dX10_nextToken_149 rfl e3 ?_
      refine a_iadd dX10_nextToken_150 ?_
      refine a_bipush dX10_nextToken_151 (v := nI 48) (by decide) ?_
      refine a_isub dX10_nextToken_153 ?_
      refine a_goto 161 dX10_nextToken_154 (by decide) ?_
      refine a_put dX10_nextToken_161 fF_RX10_87 rfl rfl rfl rfl ?_
      refine a_aload_n dX10_nextToken_164 rfl ?_
      refine a_dup dX10_nextToken_165 rfl ?_
      refine a_getI dX10_nextToken_166 fF_RX10_90 rfl rfl ?_
      refine a_iconst dX10_nextToken_169 (v := nI 1) (by decide) ?_
      refine a_iadd dX10_nextToken_170 ?_
      refine a_put dX10_nextToken_171 fF_RX10_90 rfl rfl rfl rfl ?_
      refine a_aload_n dX10_nextToken_174 rfl ?_
      refine a_dup dX10_nextToken_175 rfl ?_
      refine a_getI dX10_nextToken_176 fF_RX10_81 rfl rfl ?_
      refine a_iconst dX10_nextToken_179 (v := nI 1) (by decide) ?_
      refine a_iadd dX10_nextToken_180 ?_
      refine a_put dX10_nextToken_181 fF_RX10_81 rfl rfl rfl rfl ?_
      refine a_goto 95 dX10_nextToken_184 (by decide) ?_
      exact k
set_option maxRecDepth 100000 in
theorem w_X10_fails_0 {G : dh_G} {x1 : Int32} {h : dh_H} {Q : Option Value → dh_H → Prop} (k : Q (some (.int (nI 0))) (dh_s (dh_s h 61 7 (h 61 3)) 61 8 x1)) : dh_J G mX10_fails 0 [some (.ref 61), some (.int (x1))] [] h Q := by
  refine a_aload_n dX10_fails_0 rfl ?_
  refine a_aload_n dX10_fails_1 rfl ?_
  refine a_getI dX10_fails_2 fF_RX10_84 rfl rfl ?_
  refine a_put dX10_fails_5 fF_RX10_13 rfl rfl rfl rfl ?_
  refine a_aload_n dX10_fails_8 rfl ?_
  refine a_iload_n dX10_fails_9 rfl ?_
  refine a_put dX10_fails_10 fF_RX10_96 rfl rfl rfl rfl ?_
  refine a_iconst dX10_fails_13 (v := nI 0) (by decide) ?_
  exact a_zret dX10_fails_14 rfl (by decide) k
theorem e_X10_fails {G : dh_G} {x1 : Int32} {h : dh_H} {Q : Option Value → dh_H → Prop} (k : Q (some (.int (nI 0))) (dh_s (dh_s h 61 7 (h 61 3)) 61 8 x1)) : dh_C G mX10_fails [.ref 61, .int (x1)] h Q := dh_C_of [some (.ref 61), some (.int (x1))] (by decide) (Nat.le_of_ble_eq_true rfl) rfl (w_X10_fails_0 k)
set_option maxRecDepth 100000 in
theorem w_X10_isNumber_0 {G : dh_G} {x1 x2 : Int32} {h : dh_H} {Q : Option Value → dh_H → Prop} (k : dh_C G mX10_nextToken [.ref 61] h (fun v h1 => dh_J G mX10_isNumber 4 [some (.ref 61), some (.int (x1)), some (.int (x2))] (v.toList ++ []) h1 Q)) : dh_J G mX10_isNumber 0 [some (.ref 61), some (.int (x1)), some (.int (x2))] [] h Q := by
  refine a_aload_n dX10_isNumber_0 rfl ?_
  exact a_callV0 dX10_isNumber_1 (dh_Y_up cY_RX10_99 (by decide)) rfl rfl (Nat.le_of_ble_eq_true rfl) k
theorem e_X10_isNumber {G : dh_G} {x1 x2 : Int32} {h : dh_H} {Q : Option Value → dh_H → Prop} (k : dh_C G mX10_nextToken [.ref 61] h (fun v h1 => dh_J G mX10_isNumber 4 [some (.ref 61), some (.int (x1)), some (.int (x2))] (v.toList ++ []) h1 Q)) : dh_C G mX10_isNumber [.ref 61, .int (x1), .int (x2)] h Q := dh_C_of [some (.ref 61), some (.int (x1)), some (.int (x2))] (by decide) (Nat.le_of_ble_eq_true rfl) rfl (w_X10_isNumber_0 k)
set_option maxRecDepth 100000 in
theorem w_X10_isNumber_4 {G : dh_G} {x1 x2 : Int32} {h : dh_H} {Q : Option Value → dh_H → Prop} (k : (((h 61 4) = (-1 : Int32)) → (((nI 4) ≤ (h 61 6)) → dh_C G mX10_fails [.ref 61, .int (nI 2)] h (fun v h1 => dh_J G mX10_isNumber 43 [none, none, none] (v.toList ++ []) h1 Q)) ∧ ((¬ (nI 4) ≤ (h 61 6)) → dh_C G mX10_in [.int (h 61 5), .int (x1), .int (x2)] h (fun v h1 => dh_J G mX10_isNumber 35 [some (.ref 61), none, none] (v.toList ++ []) h1 Q))) ∧ ((¬ (h 61 4) = (-1 : Int32)) → dh_C G mX10_fails [.ref 61, .int (nI 1)] h (fun v h1 => dh_J G mX10_isNumber 17 [none, none, none] (v.toList ++ []) h1 Q))) : dh_J G mX10_isNumber 4 [some (.ref 61), some (.int (x1)), some (.int (x2))] [] h Q := by
  refine a_aload_n dX10_isNumber_4 rfl ?_
  refine a_getI dX10_isNumber_5 fF_RX10_93 rfl rfl ?_
  refine a_iconst dX10_isNumber_8 (v := (-1 : Int32)) (by decide) ?_
  refine a_icmp_eq 18 dX10_isNumber_9 (by decide) (fun c1 => ?_) (fun c1 => ?_)
  · replace k := k.1 c1
    refine a_aload_n dX10_isNumber_18 rfl ?_
    refine a_getI dX10_isNumber_19 fF_RX10_90 rfl rfl ?_
    refine a_iconst dX10_isNumber_22 (v := nI 4) (by decide) ?_
    refine a_icmp_ge 38 dX10_isNumber_23 (by decide) (fun c2 => ?_) (fun c2 => ?_)
    · replace k := k.1 c2
      refine a_aload_n dX10_isNumber_38 rfl ?_
      refine a_iconst dX10_isNumber_39 (v := nI 2) (by decide) ?_
      refine dh_drop 0 ?_
      refine dh_drop 1 ?_
      refine dh_drop 2 ?_
      exact a_callV1 dX10_isNumber_40 (dh_Y_up cY_RX10_102 (by decide)) rfl rfl (Nat.le_of_ble_eq_true rfl) k
    · replace k := k.2 c2
      refine a_aload_n dX10_isNumber_26 rfl ?_
      refine a_getI dX10_isNumber_27 fF_RX10_87 rfl rfl ?_
      refine a_iload_n dX10_isNumber_30 rfl ?_
      refine a_iload_n dX10_isNumber_31 rfl ?_
      refine dh_drop 1 ?_
      refine dh_drop 2 ?_
      exact a_callS3 dX10_isNumber_32 (dh_Y_up cY_RX10_69 (by decide)) (Nat.le_of_ble_eq_true rfl) k
  · replace k := k.2 c1
    refine a_aload_n dX10_isNumber_12 rfl ?_
    refine a_iconst dX10_isNumber_13 (v := nI 1) (by decide) ?_
    refine dh_drop 0 ?_
    refine dh_drop 1 ?_
    refine dh_drop 2 ?_
    exact a_callV1 dX10_isNumber_14 (dh_Y_up cY_RX10_102 (by decide)) rfl rfl (Nat.le_of_ble_eq_true rfl) k
set_option maxRecDepth 100000 in
theorem w_X10_isNumber_17 {G : dh_G} {s0 : Int32} {h : dh_H} {Q : Option Value → dh_H → Prop} (k : ((s0) = 0 ∨ (s0) = 1) ∧ Q (some (.int (s0))) h) : dh_J G mX10_isNumber 17 [none, none, none] [.int (s0)] h Q := by
  obtain ⟨e1, k⟩ := k
  exact a_zret dX10_isNumber_17 rfl (dh_b1 e1) k
set_option maxRecDepth 100000 in
theorem w_X10_isNumber_35 {G : dh_G} {s0 : Int32} {h : dh_H} {Q : Option Value → dh_H → Prop} (k : ((¬ s0 = 0) → Q (some (.int (nI 1))) h) ∧ ((s0 = 0) → dh_C G mX10_fails [.ref 61, .int (nI 2)] h (fun v h1 => dh_J G mX10_isNumber 43 [none, none, none] (v.toList ++ []) h1 Q))) : dh_J G mX10_isNumber 35 [some (.ref 61), none, none] [.int (s0)] h Q := by
  refine a_if_ne 46 dX10_isNumber_35 (by decide) (fun c1 => ?_) (fun c1 => ?_)
  · replace k := k.1 c1
    refine a_iconst dX10_isNumber_46 (v := nI 1) (by decide) ?_
    refine a_goto 51 dX10_isNumber_47 (by decide) ?_
    exact a_zret dX10_isNumber_51 rfl (by decide) k
  · replace k := k.2 c1
    refine a_aload_n dX10_isNumber_38 rfl ?_
    refine a_iconst dX10_isNumber_39 (v := nI 2) (by decide) ?_
    refine dh_drop 0 ?_
    exact a_callV1 dX10_isNumber_40 (dh_Y_up cY_RX10_102 (by decide)) rfl rfl (Nat.le_of_ble_eq_true rfl) k
set_option maxRecDepth 100000 in
theorem w_X10_isNumber_43 {G : dh_G} {s0 : Int32} {h : dh_H} {Q : Option Value → dh_H → Prop} (k : ((s0 = 0) → Q (some (.int (nI 0))) h) ∧ ((¬ s0 = 0) → Q (some (.int (nI 1))) h)) : dh_J G mX10_isNumber 43 [none, none, none] [.int (s0)] h Q := by
  refine a_if_eq 50 dX10_isNumber_43 (by decide) (fun c1 => ?_) (fun c1 => ?_)
  · replace k := k.1 c1
    refine a_iconst dX10_isNumber_50 (v := nI 0) (by decide) ?_
    exact a_zret dX10_isNumber_51 rfl (by decide) k
  · replace k := k.2 c1
    refine a_iconst dX10_isNumber_46 (v := nI 1) (by decide) ?_
    refine a_goto 51 dX10_isNumber_47 (by decide) ?_
    exact a_zret dX10_isNumber_51 rfl (by decide) k
set_option maxRecDepth 100000 in
theorem w_X10_isEnd_0 {G : dh_G} {h : dh_H} {Q : Option Value → dh_H → Prop} (k : dh_C G mX10_nextToken [.ref 61] h (fun v h1 => dh_J G mX10_isEnd 4 [some (.ref 61)] (v.toList ++ []) h1 Q)) : dh_J G mX10_isEnd 0 [some (.ref 61)] [] h Q := by
  refine a_aload_n dX10_isEnd_0 rfl ?_
  exact a_callV0 dX10_isEnd_1 (dh_Y_up cY_RX10_99 (by decide)) rfl rfl (Nat.le_of_ble_eq_true rfl) k
theorem e_X10_isEnd {G : dh_G} {h : dh_H} {Q : Option Value → dh_H → Prop} (k : dh_C G mX10_nextToken [.ref 61] h (fun v h1 => dh_J G mX10_isEnd 4 [some (.ref 61)] (v.toList ++ []) h1 Q)) : dh_C G mX10_isEnd [.ref 61] h Q := dh_C_of [some (.ref 61)] (by decide) (Nat.le_of_ble_eq_true rfl) rfl (w_X10_isEnd_0 k)
set_option maxRecDepth 100000 in
theorem w_X10_isEnd_4 {G : dh_G} {h : dh_H} {Q : Option Value → dh_H → Prop} (k : (((h 61 4) = (nI 59)) → Q (some (.int (nI 1))) h) ∧ ((¬ (h 61 4) = (nI 59)) → dh_C G mX10_fails [.ref 61, .int (nI 1)] h (fun v h1 => dh_J G mX10_isEnd 18 [none] (v.toList ++ []) h1 Q))) : dh_J G mX10_isEnd 4 [some (.ref 61)] [] h Q := by
  refine a_aload_n dX10_isEnd_4 rfl ?_
  refine a_getI dX10_isEnd_5 fF_RX10_93 rfl rfl ?_
  refine a_bipush dX10_isEnd_8 (v := nI 59) (by decide) ?_
  refine a_icmp_eq 21 dX10_isEnd_10 (by decide) (fun c1 => ?_) (fun c1 => ?_)
  · replace k := k.1 c1
    refine a_iconst dX10_isEnd_21 (v := nI 1) (by decide) ?_
    refine a_goto 26 dX10_isEnd_22 (by decide) ?_
    exact a_zret dX10_isEnd_26 rfl (by decide) k
  · replace k := k.2 c1
    refine a_aload_n dX10_isEnd_13 rfl ?_
    refine a_iconst dX10_isEnd_14 (v := nI 1) (by decide) ?_
    refine dh_drop 0 ?_
    exact a_callV1 dX10_isEnd_15 (dh_Y_up cY_RX10_102 (by decide)) rfl rfl (Nat.le_of_ble_eq_true rfl) k
set_option maxRecDepth 100000 in
theorem w_X10_isEnd_18 {G : dh_G} {s0 : Int32} {h : dh_H} {Q : Option Value → dh_H → Prop} (k : ((s0 = 0) → Q (some (.int (nI 0))) h) ∧ ((¬ s0 = 0) → Q (some (.int (nI 1))) h)) : dh_J G mX10_isEnd 18 [none] [.int (s0)] h Q := by
  refine a_if_eq 25 dX10_isEnd_18 (by decide) (fun c1 => ?_) (fun c1 => ?_)
  · replace k := k.1 c1
    refine a_iconst dX10_isEnd_25 (v := nI 0) (by decide) ?_
    exact a_zret dX10_isEnd_26 rfl (by decide) k
  · replace k := k.2 c1
    refine a_iconst dX10_isEnd_21 (v := nI 1) (by decide) ?_
    refine a_goto 26 dX10_isEnd_22 (by decide) ?_
    exact a_zret dX10_isEnd_26 rfl (by decide) k
set_option maxRecDepth 100000 in
theorem w_X10_isHead_0 {G : dh_G} {h : dh_H} {Q : Option Value → dh_H → Prop} (k : dh_C G mX10_isNumber [.ref 61, .int (nI 1), .int (nI 99)] h (fun v h1 => dh_J G mX10_isHead 7 [some (.ref 61)] (v.toList ++ []) h1 Q)) : dh_J G mX10_isHead 0 [some (.ref 61)] [] h Q := by
  refine a_aload_n dX10_isHead_0 rfl ?_
  refine a_iconst dX10_isHead_1 (v := nI 1) (by decide) ?_
  refine a_bipush dX10_isHead_2 (v := nI 99) (by decide) ?_
  exact a_callV2 dX10_isHead_4 (dh_Y_up cY_RX10_106 (by decide)) rfl rfl (Nat.le_of_ble_eq_true rfl) k
theorem e_X10_isHead {G : dh_G} {h : dh_H} {Q : Option Value → dh_H → Prop} (k : dh_C G mX10_isNumber [.ref 61, .int (nI 1), .int (nI 99)] h (fun v h1 => dh_J G mX10_isHead 7 [some (.ref 61)] (v.toList ++ []) h1 Q)) : dh_C G mX10_isHead [.ref 61] h Q := dh_C_of [some (.ref 61)] (by decide) (Nat.le_of_ble_eq_true rfl) rfl (w_X10_isHead_0 k)
set_option maxRecDepth 100000 in
theorem w_X10_isHead_7 {G : dh_G} {s0 : Int32} {h : dh_H} {Q : Option Value → dh_H → Prop} (k : ((¬ s0 = 0) → dh_C G mX10_isNumber [.ref 61, .int (nI 0), .int (nI 100)] (dh_s h 61 10 (h 61 5)) (fun v h1 => dh_J G mX10_isHead 27 [some (.ref 61)] (v.toList ++ []) h1 Q)) ∧ ((s0 = 0) → Q (some (.int (nI 0))) h)) : dh_J G mX10_isHead 7 [some (.ref 61)] [.int (s0)] h Q := by
  refine a_if_ne 12 dX10_isHead_7 (by decide) (fun c1 => ?_) (fun c1 => ?_)
  · replace k := k.1 c1
    refine a_aload_n dX10_isHead_12 rfl ?_
    refine a_aload_n dX10_isHead_13 rfl ?_
    refine a_getI dX10_isHead_14 fF_RX10_87 rfl rfl ?_
    refine a_put dX10_isHead_17 fF_RX10_110 rfl rfl rfl rfl ?_
    refine a_aload_n dX10_isHead_20 rfl ?_
    refine a_iconst dX10_isHead_21 (v := nI 0) (by decide) ?_
    refine a_bipush dX10_isHead_22 (v := nI 100) (by decide) ?_
    exact a_callV2 dX10_isHead_24 (dh_Y_up cY_RX10_106 (by decide)) rfl rfl (Nat.le_of_ble_eq_true rfl) k
  · replace k := k.2 c1
    refine a_iconst dX10_isHead_10 (v := nI 0) (by decide) ?_
    exact a_zret dX10_isHead_11 rfl (by decide) k
set_option maxRecDepth 100000 in
theorem w_X10_isHead_27 {G : dh_G} {s0 : Int32} {h : dh_H} {Q : Option Value → dh_H → Prop} (k : ((¬ s0 = 0) → dh_C G mX10_isEnd [.ref 61] (dh_s (dh_s h 61 11 (h 61 5)) 61 9 (nI 1)) (fun v h1 => dh_J G mX10_isHead 49 [none] (v.toList ++ []) h1 Q)) ∧ ((s0 = 0) → Q (some (.int (nI 0))) h)) : dh_J G mX10_isHead 27 [some (.ref 61)] [.int (s0)] h Q := by
  refine a_if_ne 32 dX10_isHead_27 (by decide) (fun c1 => ?_) (fun c1 => ?_)
  · replace k := k.1 c1
    refine a_aload_n dX10_isHead_32 rfl ?_
    refine a_aload_n dX10_isHead_33 rfl ?_
    refine a_getI dX10_isHead_34 fF_RX10_87 rfl rfl ?_
    refine a_put dX10_isHead_37 fF_RX10_113 rfl rfl rfl rfl ?_
    refine a_aload_n dX10_isHead_40 rfl ?_
    refine a_iconst dX10_isHead_41 (v := nI 1) (by decide) ?_
    refine a_put dX10_isHead_42 fF_RX10_116 rfl rfl (by decide) (by decide) ?_
    refine a_aload_n dX10_isHead_45 rfl ?_
    refine dh_drop 0 ?_
    exact a_callV0 dX10_isHead_46 (dh_Y_up cY_RX10_120 (by decide)) rfl rfl (Nat.le_of_ble_eq_true rfl) k
  · replace k := k.2 c1
    refine a_iconst dX10_isHead_30 (v := nI 0) (by decide) ?_
    exact a_zret dX10_isHead_31 rfl (by decide) k
set_option maxRecDepth 100000 in
theorem w_X10_isHead_49 {G : dh_G} {s0 : Int32} {h : dh_H} {Q : Option Value → dh_H → Prop} (k : ((s0) = 0 ∨ (s0) = 1) ∧ Q (some (.int (s0))) h) : dh_J G mX10_isHead 49 [none] [.int (s0)] h Q := by
  obtain ⟨e1, k⟩ := k
  exact a_zret dX10_isHead_49 rfl (dh_b1 e1) k
set_option maxRecDepth 100000 in
theorem w_X10_isChildItem_0 {G : dh_G} {h : dh_H} {Q : Option Value → dh_H → Prop} (k : ((¬ (h 61 12) = (nI 6)) → dh_C G mX10_isNumber [.ref 61, .int (nI 0), .int (nI 3)] h (fun v h1 => dh_J G mX10_isChildItem 21 [some (.ref 61)] (v.toList ++ []) h1 Q)) ∧ (((h 61 12) = (nI 6)) → dh_C G mX10_fails [.ref 61, .int (nI 3)] h (fun v h1 => dh_J G mX10_isChildItem 14 [none] (v.toList ++ []) h1 Q))) : dh_J G mX10_isChildItem 0 [some (.ref 61)] [] h Q := by
  refine a_aload_n dX10_isChildItem_0 rfl ?_
  refine a_getI dX10_isChildItem_1 fF_RX10_124 rfl rfl ?_
  refine a_bipush dX10_isChildItem_4 (v := nI 6) (by decide) ?_
  refine a_icmp_ne 15 dX10_isChildItem_6 (by decide) (fun c1 => ?_) (fun c1 => ?_)
  · replace k := k.1 c1
    refine a_aload_n dX10_isChildItem_15 rfl ?_
    refine a_iconst dX10_isChildItem_16 (v := nI 0) (by decide) ?_
    refine a_iconst dX10_isChildItem_17 (v := nI 3) (by decide) ?_
    exact a_callV2 dX10_isChildItem_18 (dh_Y_up cY_RX10_106 (by decide)) rfl rfl (Nat.le_of_ble_eq_true rfl) k
  · replace k := k.2 c1
    refine a_aload_n dX10_isChildItem_9 rfl ?_
    refine a_iconst dX10_isChildItem_10 (v := nI 3) (by decide) ?_
    refine dh_drop 0 ?_
    exact a_callV1 dX10_isChildItem_11 (dh_Y_up cY_RX10_102 (by decide)) rfl rfl (Nat.le_of_ble_eq_true rfl) k
theorem e_X10_isChildItem {G : dh_G} {h : dh_H} {Q : Option Value → dh_H → Prop} (k : ((¬ (h 61 12) = (nI 6)) → dh_C G mX10_isNumber [.ref 61, .int (nI 0), .int (nI 3)] h (fun v h1 => dh_J G mX10_isChildItem 21 [some (.ref 61)] (v.toList ++ []) h1 Q)) ∧ (((h 61 12) = (nI 6)) → dh_C G mX10_fails [.ref 61, .int (nI 3)] h (fun v h1 => dh_J G mX10_isChildItem 14 [none] (v.toList ++ []) h1 Q))) : dh_C G mX10_isChildItem [.ref 61] h Q := dh_C_of [some (.ref 61)] (by decide) (Nat.le_of_ble_eq_true rfl) rfl (w_X10_isChildItem_0 k)
set_option maxRecDepth 100000 in
theorem w_X10_isChildItem_14 {G : dh_G} {s0 : Int32} {h : dh_H} {Q : Option Value → dh_H → Prop} (k : ((s0) = 0 ∨ (s0) = 1) ∧ Q (some (.int (s0))) h) : dh_J G mX10_isChildItem 14 [none] [.int (s0)] h Q := by
  obtain ⟨e1, k⟩ := k
  exact a_zret dX10_isChildItem_14 rfl (dh_b1 e1) k
set_option maxRecDepth 100000 in
theorem w_X10_isChildItem_21 {G : dh_G} {s0 : Int32} {h : dh_H} {Q : Option Value → dh_H → Prop} (k : ((¬ s0 = 0) → (vp_in ((nI 2) * (h 61 12)) 12) ∧ dh_C G mX10_isNumber [.ref 61, .int (nI 0), .int (nI 60)] (dh_s h 63 ((nI 2) * (h 61 12)).toNatClampNeg (h 61 5)) (fun v h1 => dh_J G mX10_isChildItem 48 [some (.ref 61)] (v.toList ++ []) h1 Q)) ∧ ((s0 = 0) → Q (some (.int (nI 0))) h)) : dh_J G mX10_isChildItem 21 [some (.ref 61)] [.int (s0)] h Q := by
  refine a_if_ne 26 dX10_isChildItem_21 (by decide) (fun c1 => ?_) (fun c1 => ?_)
  · replace k := k.1 c1
    refine a_aload_n dX10_isChildItem_26 rfl ?_
    refine a_getR dX10_isChildItem_27 fF_RX10_17 rfl rfl ?_
    refine a_iconst dX10_isChildItem_30 (v := nI 2) (by decide) ?_
    refine a_aload_n dX10_isChildItem_31 rfl ?_
    refine a_getI dX10_isChildItem_32 fF_RX10_124 rfl rfl ?_
    refine a_imul dX10_isChildItem_35 ?_
    refine a_aload_n dX10_isChildItem_36 rfl ?_
    refine a_getI dX10_isChildItem_37 fF_RX10_87 rfl rfl ?_
    obtain ⟨e2, k⟩ := k
    refine a_iast dX10_isChildItem_40 rfl e2 ?_
    refine a_aload_n dX10_isChildItem_41 rfl ?_
    refine a_iconst dX10_isChildItem_42 (v := nI 0) (by decide) ?_
    refine a_bipush dX10_isChildItem_43 (v := nI 60) (by decide) ?_
    exact a_callV2 dX10_isChildItem_45 (dh_Y_up cY_RX10_106 (by decide)) rfl rfl (Nat.le_of_ble_eq_true rfl) k
  · replace k := k.2 c1
    refine a_iconst dX10_isChildItem_24 (v := nI 0) (by decide) ?_
    exact a_zret dX10_isChildItem_25 rfl (by decide) k
set_option maxRecDepth 100000 in
theorem w_X10_isChildItem_48 {G : dh_G} {s0 : Int32} {h : dh_H} {Q : Option Value → dh_H → Prop} (k : ((¬ s0 = 0) → (vp_in (((nI 2) * (h 61 12)) + (nI 1)) 12) ∧ dh_C G mX10_isEnd [.ref 61] (dh_s (dh_s h 63 (((nI 2) * (h 61 12)) + (nI 1)).toNatClampNeg (h 61 5)) 61 12 ((h 61 12) + (nI 1))) (fun v h1 => dh_J G mX10_isChildItem 84 [none] (v.toList ++ []) h1 Q)) ∧ ((s0 = 0) → Q (some (.int (nI 0))) h)) : dh_J G mX10_isChildItem 48 [some (.ref 61)] [.int (s0)] h Q := by
  refine a_if_ne 53 dX10_isChildItem_48 (by decide) (fun c1 => ?_) (fun c1 => ?_)
  · replace k := k.1 c1
    refine a_aload_n dX10_isChildItem_53 rfl ?_
    refine a_getR dX10_isChildItem_54 fF_RX10_17 rfl rfl ?_
    refine a_iconst dX10_isChildItem_57 (v := nI 2) (by decide) ?_
    refine a_aload_n dX10_isChildItem_58 rfl ?_
    refine a_getI dX10_isChildItem_59 fF_RX10_124 rfl rfl ?_
    refine a_imul dX10_isChildItem_62 ?_
    refine a_iconst dX10_isChildItem_63 (v := nI 1) (by decide) ?_
    refine a_iadd dX10_isChildItem_64 ?_
    refine a_aload_n dX10_isChildItem_65 rfl ?_
    refine a_getI dX10_isChildItem_66 fF_RX10_87 rfl rfl ?_
    obtain ⟨e2, k⟩ := k
    refine a_iast dX10_isChildItem_69 rfl e2 ?_
    refine a_aload_n dX10_isChildItem_70 rfl ?_
    refine a_dup dX10_isChildItem_71 rfl ?_
    refine a_getI dX10_isChildItem_72 fF_RX10_124 rfl rfl ?_
    refine a_iconst dX10_isChildItem_75 (v := nI 1) (by decide) ?_
    refine a_iadd dX10_isChildItem_76 ?_
    refine a_put dX10_isChildItem_77 fF_RX10_124 rfl rfl rfl rfl ?_
    refine a_aload_n dX10_isChildItem_80 rfl ?_
    refine dh_drop 0 ?_
    exact a_callV0 dX10_isChildItem_81 (dh_Y_up cY_RX10_120 (by decide)) rfl rfl (Nat.le_of_ble_eq_true rfl) k
  · replace k := k.2 c1
    refine a_iconst dX10_isChildItem_51 (v := nI 0) (by decide) ?_
    exact a_zret dX10_isChildItem_52 rfl (by decide) k
set_option maxRecDepth 100000 in
theorem w_X10_isChildItem_84 {G : dh_G} {s0 : Int32} {h : dh_H} {Q : Option Value → dh_H → Prop} (k : ((s0) = 0 ∨ (s0) = 1) ∧ Q (some (.int (s0))) h) : dh_J G mX10_isChildItem 84 [none] [.int (s0)] h Q := by
  obtain ⟨e1, k⟩ := k
  exact a_zret dX10_isChildItem_84 rfl (dh_b1 e1) k
set_option maxRecDepth 100000 in
theorem w_X10_isWhose_0 {G : dh_G} {h : dh_H} {Q : Option Value → dh_H → Prop} (k : dh_C G mX10_nextToken [.ref 61] h (fun v h1 => dh_J G mX10_isWhose 4 [some (.ref 61), none] (v.toList ++ []) h1 Q)) : dh_J G mX10_isWhose 0 [some (.ref 61), none] [] h Q := by
  refine a_aload_n dX10_isWhose_0 rfl ?_
  exact a_callV0 dX10_isWhose_1 (dh_Y_up cY_RX10_99 (by decide)) rfl rfl (Nat.le_of_ble_eq_true rfl) k
theorem e_X10_isWhose {G : dh_G} {h : dh_H} {Q : Option Value → dh_H → Prop} (k : dh_C G mX10_nextToken [.ref 61] h (fun v h1 => dh_J G mX10_isWhose 4 [some (.ref 61), none] (v.toList ++ []) h1 Q)) : dh_C G mX10_isWhose [.ref 61] h Q := dh_C_of [some (.ref 61), none] (by decide) (Nat.le_of_ble_eq_true rfl) rfl (w_X10_isWhose_0 k)
set_option maxRecDepth 100000 in
theorem w_X10_isWhose_4 {G : dh_G} {h : dh_H} {Q : Option Value → dh_H → Prop} (k : (((h 61 4) = (-1 : Int32)) → (((nI 3) < (h 61 6)) → dh_C G mX10_fails [.ref 61, .int (nI 2)] h (fun v h1 => dh_J G mX10_isWhose 51 [none, none] (v.toList ++ []) h1 Q)) ∧ ((¬ (nI 3) < (h 61 6)) → (((h 61 5) = (nI 9)) → dh_J G mX10_isWhose 54 [some (.ref 61), some (.int (nI 0))] [] h Q) ∧ ((¬ (h 61 5) = (nI 9)) → (((h 61 5) < (h 61 12)) → dh_J G mX10_isWhose 54 [some (.ref 61), some (.int (nI 0))] [] h Q) ∧ ((¬ (h 61 5) < (h 61 12)) → dh_C G mX10_fails [.ref 61, .int (nI 2)] h (fun v h1 => dh_J G mX10_isWhose 51 [none, none] (v.toList ++ []) h1 Q))))) ∧ ((¬ (h 61 4) = (-1 : Int32)) → dh_C G mX10_fails [.ref 61, .int (nI 1)] h (fun v h1 => dh_J G mX10_isWhose 17 [none, none] (v.toList ++ []) h1 Q))) : dh_J G mX10_isWhose 4 [some (.ref 61), none] [] h Q := by
  refine a_aload_n dX10_isWhose_4 rfl ?_
  refine a_getI dX10_isWhose_5 fF_RX10_93 rfl rfl ?_
  refine a_iconst dX10_isWhose_8 (v := (-1 : Int32)) (by decide) ?_
  refine a_icmp_eq 18 dX10_isWhose_9 (by decide) (fun c1 => ?_) (fun c1 => ?_)
  · replace k := k.1 c1
    refine a_aload_n dX10_isWhose_18 rfl ?_
    refine a_getI dX10_isWhose_19 fF_RX10_90 rfl rfl ?_
    refine a_iconst dX10_isWhose_22 (v := nI 3) (by decide) ?_
    refine a_icmp_gt 46 dX10_isWhose_23 (by decide) (fun c2 => ?_) (fun c2 => ?_)
    · replace k := k.1 c2
      refine a_aload_n dX10_isWhose_46 rfl ?_
      refine a_iconst dX10_isWhose_47 (v := nI 2) (by decide) ?_
      refine dh_drop 0 ?_
      exact a_callV1 dX10_isWhose_48 (dh_Y_up cY_RX10_102 (by decide)) rfl rfl (Nat.le_of_ble_eq_true rfl) k
    · replace k := k.2 c2
      refine a_aload_n dX10_isWhose_26 rfl ?_
      refine a_getI dX10_isWhose_27 fF_RX10_87 rfl rfl ?_
      refine a_bipush dX10_isWhose_30 (v := nI 9) (by decide) ?_
      refine a_icmp_eq 52 dX10_isWhose_32 (by decide) (fun c3 => ?_) (fun c3 => ?_)
      · replace k := k.1 c3
        refine a_iconst dX10_isWhose_52 (v := nI 0) (by decide) ?_
        refine a_istore_n dX10_isWhose_53 (by decide) rfl ?_
        exact k
      · replace k := k.2 c3
        refine a_aload_n dX10_isWhose_35 rfl ?_
        refine a_getI dX10_isWhose_36 fF_RX10_87 rfl rfl ?_
        refine a_aload_n dX10_isWhose_39 rfl ?_
        refine a_getI dX10_isWhose_40 fF_RX10_124 rfl rfl ?_
        refine a_icmp_lt 52 dX10_isWhose_43 (by decide) (fun c4 => ?_) (fun c4 => ?_)
        · replace k := k.1 c4
          refine a_iconst dX10_isWhose_52 (v := nI 0) (by decide) ?_
          refine a_istore_n dX10_isWhose_53 (by decide) rfl ?_
          exact k
        · replace k := k.2 c4
          refine a_aload_n dX10_isWhose_46 rfl ?_
          refine a_iconst dX10_isWhose_47 (v := nI 2) (by decide) ?_
          refine dh_drop 0 ?_
          exact a_callV1 dX10_isWhose_48 (dh_Y_up cY_RX10_102 (by decide)) rfl rfl (Nat.le_of_ble_eq_true rfl) k
  · replace k := k.2 c1
    refine a_aload_n dX10_isWhose_12 rfl ?_
    refine a_iconst dX10_isWhose_13 (v := nI 1) (by decide) ?_
    refine dh_drop 0 ?_
    exact a_callV1 dX10_isWhose_14 (dh_Y_up cY_RX10_102 (by decide)) rfl rfl (Nat.le_of_ble_eq_true rfl) k
set_option maxRecDepth 100000 in
theorem w_X10_isWhose_17 {G : dh_G} {s0 : Int32} {h : dh_H} {Q : Option Value → dh_H → Prop} (k : ((s0) = 0 ∨ (s0) = 1) ∧ Q (some (.int (s0))) h) : dh_J G mX10_isWhose 17 [none, none] [.int (s0)] h Q := by
  obtain ⟨e1, k⟩ := k
  exact a_zret dX10_isWhose_17 rfl (dh_b1 e1) k
set_option maxRecDepth 100000 in
theorem w_X10_isWhose_51 {G : dh_G} {s0 : Int32} {h : dh_H} {Q : Option Value → dh_H → Prop} (k : ((s0) = 0 ∨ (s0) = 1) ∧ Q (some (.int (s0))) h) : dh_J G mX10_isWhose 51 [none, none] [.int (s0)] h Q := by
  obtain ⟨e1, k⟩ := k
  exact a_zret dX10_isWhose_51 rfl (dh_b1 e1) k
set_option maxRecDepth 100000 in
theorem w_X10_isWhose_54 {G : dh_G} {x1 : Int32} {h : dh_H} {Q : Option Value → dh_H → Prop} (k : (((h 61 13) ≤ x1) → Q (some (.int (nI 1))) h) ∧ ((¬ (h 61 13) ≤ x1) → (((h 61 5) = (nI 9)) → dh_J G mX10_isWhose 54 [some (.ref 61), some (.int (x1 + (nI 1)))] [] h Q) ∧ ((¬ (h 61 5) = (nI 9)) → (vp_in (((nI 4) * x1) + (nI 3)) 24) ∧ ((¬ (h 64 (((nI 4) * x1) + (nI 3)).toNatClampNeg) = (h 61 5)) → dh_J G mX10_isWhose 54 [some (.ref 61), some (.int (x1 + (nI 1)))] [] h Q) ∧ (((h 64 (((nI 4) * x1) + (nI 3)).toNatClampNeg) = (h 61 5)) → dh_C G mX10_fails [.ref 61, .int (nI 4)] h (fun v h1 => dh_J G mX10_isWhose 93 [none, none] (v.toList ++ []) h1 Q))))) : dh_J G mX10_isWhose 54 [some (.ref 61), some (.int (x1))] [] h Q := by
  refine a_iload_n dX10_isWhose_54 rfl ?_
  refine a_aload_n dX10_isWhose_55 rfl ?_
  refine a_getI dX10_isWhose_56 fF_RX10_127 rfl rfl ?_
  refine a_icmp_ge 100 dX10_isWhose_59 (by decide) (fun c1 => ?_) (fun c1 => ?_)
  · replace k := k.1 c1
    refine a_iconst dX10_isWhose_100 (v := nI 1) (by decide) ?_
    exact a_zret dX10_isWhose_101 rfl (by decide) k
  · replace k := k.2 c1
    refine a_aload_n dX10_isWhose_62 rfl ?_
    refine a_getI dX10_isWhose_63 fF_RX10_87 rfl rfl ?_
    refine a_bipush dX10_isWhose_66 (v := nI 9) (by decide) ?_
    refine a_icmp_eq 94 dX10_isWhose_68 (by decide) (fun c2 => ?_) (fun c2 => ?_)
    · replace k := k.1 c2
      refine a_iinc dX10_isWhose_94 (v := x1 + (nI 1)) rfl (by rfl) (by decide) rfl ?_
      refine a_goto 54 dX10_isWhose_97 (by decide) ?_
      exact k
    · replace k := k.2 c2
      refine a_aload_n dX10_isWhose_71 rfl ?_
      refine a_getR dX10_isWhose_72 fF_RX10_20 rfl rfl ?_
      refine a_iconst dX10_isWhose_75 (v := nI 4) (by decide) ?_
      refine a_iload_n dX10_isWhose_76 rfl ?_
      refine a_imul dX10_isWhose_77 ?_
      refine a_iconst dX10_isWhose_78 (v := nI 3) (by decide) ?_
      refine a_iadd dX10_isWhose_79 ?_
      obtain ⟨e3, k⟩ := k
      refine a_iald dX10_isWhose_80 rfl e3 ?_
      refine a_aload_n dX10_isWhose_81 rfl ?_
      refine a_getI dX10_isWhose_82 fF_RX10_87 rfl rfl ?_
      refine a_icmp_ne 94 dX10_isWhose_85 (by decide) (fun c4 => ?_) (fun c4 => ?_)
      · replace k := k.1 c4
        refine a_iinc dX10_isWhose_94 (v := x1 + (nI 1)) rfl (by rfl) (by decide) rfl ?_
        refine a_goto 54 dX10_isWhose_97 (by decide) ?_
        exact k
      · replace k := k.2 c4
        refine a_aload_n dX10_isWhose_88 rfl ?_
        refine a_iconst dX10_isWhose_89 (v := nI 4) (by decide) ?_
        refine dh_drop 0 ?_
        refine dh_drop 1 ?_
        exact a_callV1 dX10_isWhose_90 (dh_Y_up cY_RX10_102 (by decide)) rfl rfl (Nat.le_of_ble_eq_true rfl) k
set_option maxRecDepth 100000 in
theorem w_X10_isWhose_93 {G : dh_G} {s0 : Int32} {h : dh_H} {Q : Option Value → dh_H → Prop} (k : ((s0) = 0 ∨ (s0) = 1) ∧ Q (some (.int (s0))) h) : dh_J G mX10_isWhose 93 [none, none] [.int (s0)] h Q := by
  obtain ⟨e1, k⟩ := k
  exact a_zret dX10_isWhose_93 rfl (dh_b1 e1) k
set_option maxRecDepth 100000 in
theorem w_X10_isDummyItem_0 {G : dh_G} {h : dh_H} {Q : Option Value → dh_H → Prop} (k : ((¬ (h 61 13) = (nI 6)) → dh_J G mX10_isDummyItem 24 [some (.ref 61), some (.int ((nI 4) * (h 61 13))), some (.int (nI 0))] [] h Q) ∧ (((h 61 13) = (nI 6)) → dh_C G mX10_fails [.ref 61, .int (nI 3)] h (fun v h1 => dh_J G mX10_isDummyItem 14 [none, none, none] (v.toList ++ []) h1 Q))) : dh_J G mX10_isDummyItem 0 [some (.ref 61), none, none] [] h Q := by
  refine a_aload_n dX10_isDummyItem_0 rfl ?_
  refine a_getI dX10_isDummyItem_1 fF_RX10_127 rfl rfl ?_
  refine a_bipush dX10_isDummyItem_4 (v := nI 6) (by decide) ?_
  refine a_icmp_ne 15 dX10_isDummyItem_6 (by decide) (fun c1 => ?_) (fun c1 => ?_)
  · replace k := k.1 c1
    refine a_iconst dX10_isDummyItem_15 (v := nI 4) (by decide) ?_
    refine a_aload_n dX10_isDummyItem_16 rfl ?_
    refine a_getI dX10_isDummyItem_17 fF_RX10_127 rfl rfl ?_
    refine a_imul dX10_isDummyItem_20 ?_
    refine a_istore_n dX10_isDummyItem_21 (by decide) rfl ?_
    refine a_iconst dX10_isDummyItem_22 (v := nI 0) (by decide) ?_
    refine a_istore_n dX10_isDummyItem_23 (by decide) rfl ?_
    exact k
  · replace k := k.2 c1
    refine a_aload_n dX10_isDummyItem_9 rfl ?_
    refine a_iconst dX10_isDummyItem_10 (v := nI 3) (by decide) ?_
    refine dh_drop 0 ?_
    exact a_callV1 dX10_isDummyItem_11 (dh_Y_up cY_RX10_102 (by decide)) rfl rfl (Nat.le_of_ble_eq_true rfl) k
theorem e_X10_isDummyItem {G : dh_G} {h : dh_H} {Q : Option Value → dh_H → Prop} (k : ((¬ (h 61 13) = (nI 6)) → dh_J G mX10_isDummyItem 24 [some (.ref 61), some (.int ((nI 4) * (h 61 13))), some (.int (nI 0))] [] h Q) ∧ (((h 61 13) = (nI 6)) → dh_C G mX10_fails [.ref 61, .int (nI 3)] h (fun v h1 => dh_J G mX10_isDummyItem 14 [none, none, none] (v.toList ++ []) h1 Q))) : dh_C G mX10_isDummyItem [.ref 61] h Q := dh_C_of [some (.ref 61), none, none] (by decide) (Nat.le_of_ble_eq_true rfl) rfl (w_X10_isDummyItem_0 k)
set_option maxRecDepth 100000 in
theorem w_X10_isDummyItem_14 {G : dh_G} {s0 : Int32} {h : dh_H} {Q : Option Value → dh_H → Prop} (k : ((s0) = 0 ∨ (s0) = 1) ∧ Q (some (.int (s0))) h) : dh_J G mX10_isDummyItem 14 [none, none, none] [.int (s0)] h Q := by
  obtain ⟨e1, k⟩ := k
  exact a_zret dX10_isDummyItem_14 rfl (dh_b1 e1) k
set_option maxRecDepth 100000 in
theorem w_X10_isDummyItem_24 {G : dh_G} {x1 x2 : Int32} {h : dh_H} {Q : Option Value → dh_H → Prop} (k : (((nI 3) ≤ x2) → dh_C G mX10_isWhose [.ref 61] h (fun v h1 => dh_J G mX10_isDummyItem 81 [some (.ref 61), some (.int (x1)), none] (v.toList ++ []) h1 Q)) ∧ ((¬ (nI 3) ≤ x2) → ((¬ x2 = 0) → ((¬ x2 = (nI 1)) → dh_C G mX10_isNumber [.ref 61, .int (nI 0), .int (nI 30)] h (fun v h1 => dh_J G mX10_isDummyItem 54 [some (.ref 61), some (.int (x1)), some (.int (x2))] (v.toList ++ []) h1 Q)) ∧ ((x2 = (nI 1)) → dh_C G mX10_isNumber [.ref 61, .int (nI 0), .int (nI 3)] h (fun v h1 => dh_J G mX10_isDummyItem 54 [some (.ref 61), some (.int (x1)), some (.int (x2))] (v.toList ++ []) h1 Q))) ∧ ((x2 = 0) → dh_C G mX10_isNumber [.ref 61, .int (nI 0), .int (nI 9)] h (fun v h1 => dh_J G mX10_isDummyItem 54 [some (.ref 61), some (.int (x1)), some (.int (x2))] (v.toList ++ []) h1 Q)))) : dh_J G mX10_isDummyItem 24 [some (.ref 61), some (.int (x1)), some (.int (x2))] [] h Q := by
  refine a_iload_n dX10_isDummyItem_24 rfl ?_
  refine a_iconst dX10_isDummyItem_25 (v := nI 3) (by decide) ?_
  refine a_icmp_ge 77 dX10_isDummyItem_26 (by decide) (fun c1 => ?_) (fun c1 => ?_)
  · replace k := k.1 c1
    refine a_aload_n dX10_isDummyItem_77 rfl ?_
    refine dh_drop 2 ?_
    exact a_callV0 dX10_isDummyItem_78 (dh_Y_up cY_RX10_130 (by decide)) rfl rfl (Nat.le_of_ble_eq_true rfl) k
  · replace k := k.2 c1
    refine a_aload_n dX10_isDummyItem_29 rfl ?_
    refine a_iconst dX10_isDummyItem_30 (v := nI 0) (by decide) ?_
    refine a_iload_n dX10_isDummyItem_31 rfl ?_
    refine a_if_ne 40 dX10_isDummyItem_32 (by decide) (fun c2 => ?_) (fun c2 => ?_)
    · replace k := k.1 c2
      refine a_iload_n dX10_isDummyItem_40 rfl ?_
      refine a_iconst dX10_isDummyItem_41 (v := nI 1) (by decide) ?_
      refine a_icmp_ne 49 dX10_isDummyItem_42 (by decide) (fun c3 => ?_) (fun c3 => ?_)
      · replace k := k.1 c3
        refine a_bipush dX10_isDummyItem_49 (v := nI 30) (by decide) ?_
        exact a_callV2 dX10_isDummyItem_51 (dh_Y_up cY_RX10_106 (by decide)) rfl rfl (Nat.le_of_ble_eq_true rfl) k
      · replace k := k.2 c3
        refine a_iconst dX10_isDummyItem_45 (v := nI 3) (by decide) ?_
        refine a_goto 51 dX10_isDummyItem_46 (by decide) ?_
        exact a_callV2 dX10_isDummyItem_51 (dh_Y_up cY_RX10_106 (by decide)) rfl rfl (Nat.le_of_ble_eq_true rfl) k
    · replace k := k.2 c2
      refine a_bipush dX10_isDummyItem_35 (v := nI 9) (by decide) ?_
      refine a_goto 51 dX10_isDummyItem_37 (by decide) ?_
      exact a_callV2 dX10_isDummyItem_51 (dh_Y_up cY_RX10_106 (by decide)) rfl rfl (Nat.le_of_ble_eq_true rfl) k
set_option maxRecDepth 100000 in
theorem w_X10_isDummyItem_54 {G : dh_G} {x1 x2 s0 : Int32} {h : dh_H} {Q : Option Value → dh_H → Prop} (k : ((¬ s0 = 0) → (vp_in (x1 + x2) 24) ∧ dh_J G mX10_isDummyItem 24 [some (.ref 61), some (.int (x1)), some (.int (x2 + (nI 1)))] [] (dh_s h 64 (x1 + x2).toNatClampNeg (h 61 5)) Q) ∧ ((s0 = 0) → Q (some (.int (nI 0))) h)) : dh_J G mX10_isDummyItem 54 [some (.ref 61), some (.int (x1)), some (.int (x2))] [.int (s0)] h Q := by
  refine a_if_ne 59 dX10_isDummyItem_54 (by decide) (fun c1 => ?_) (fun c1 => ?_)
  · replace k := k.1 c1
    refine a_aload_n dX10_isDummyItem_59 rfl ?_
    refine a_getR dX10_isDummyItem_60 fF_RX10_20 rfl rfl ?_
    refine a_iload_n dX10_isDummyItem_63 rfl ?_
    refine a_iload_n dX10_isDummyItem_64 rfl ?_
    refine a_iadd dX10_isDummyItem_65 ?_
    refine a_aload_n dX10_isDummyItem_66 rfl ?_
    refine a_getI dX10_isDummyItem_67 fF_RX10_87 rfl rfl ?_
    obtain ⟨e2, k⟩ := k
    refine a_iast dX10_isDummyItem_70 rfl e2 ?_
    refine a_iinc dX10_isDummyItem_71 (v := x2 + (nI 1)) rfl (by rfl) (by decide) rfl ?_
    refine a_goto 24 dX10_isDummyItem_74 (by decide) ?_
    exact k
  · replace k := k.2 c1
    refine a_iconst dX10_isDummyItem_57 (v := nI 0) (by decide) ?_
    exact a_zret dX10_isDummyItem_58 rfl (by decide) k
set_option maxRecDepth 100000 in
theorem w_X10_isDummyItem_81 {G : dh_G} {x1 s0 : Int32} {h : dh_H} {Q : Option Value → dh_H → Prop} (k : ((¬ s0 = 0) → (vp_in (x1 + (nI 3)) 24) ∧ dh_C G mX10_isEnd [.ref 61] (dh_s (dh_s h 64 (x1 + (nI 3)).toNatClampNeg (h 61 5)) 61 13 ((h 61 13) + (nI 1))) (fun v h1 => dh_J G mX10_isDummyItem 112 [none, none, none] (v.toList ++ []) h1 Q)) ∧ ((s0 = 0) → Q (some (.int (nI 0))) h)) : dh_J G mX10_isDummyItem 81 [some (.ref 61), some (.int (x1)), none] [.int (s0)] h Q := by
  refine a_if_ne 86 dX10_isDummyItem_81 (by decide) (fun c1 => ?_) (fun c1 => ?_)
  · replace k := k.1 c1
    refine a_aload_n dX10_isDummyItem_86 rfl ?_
    refine a_getR dX10_isDummyItem_87 fF_RX10_20 rfl rfl ?_
    refine a_iload_n dX10_isDummyItem_90 rfl ?_
    refine a_iconst dX10_isDummyItem_91 (v := nI 3) (by decide) ?_
    refine a_iadd dX10_isDummyItem_92 ?_
    refine a_aload_n dX10_isDummyItem_93 rfl ?_
    refine a_getI dX10_isDummyItem_94 fF_RX10_87 rfl rfl ?_
    obtain ⟨e2, k⟩ := k
    refine a_iast dX10_isDummyItem_97 rfl e2 ?_
    refine a_aload_n dX10_isDummyItem_98 rfl ?_
    refine a_dup dX10_isDummyItem_99 rfl ?_
    refine a_getI dX10_isDummyItem_100 fF_RX10_127 rfl rfl ?_
    refine a_iconst dX10_isDummyItem_103 (v := nI 1) (by decide) ?_
    refine a_iadd dX10_isDummyItem_104 ?_
    refine a_put dX10_isDummyItem_105 fF_RX10_127 rfl rfl rfl rfl ?_
    refine a_aload_n dX10_isDummyItem_108 rfl ?_
    refine dh_drop 0 ?_
    refine dh_drop 1 ?_
    exact a_callV0 dX10_isDummyItem_109 (dh_Y_up cY_RX10_120 (by decide)) rfl rfl (Nat.le_of_ble_eq_true rfl) k
  · replace k := k.2 c1
    refine a_iconst dX10_isDummyItem_84 (v := nI 0) (by decide) ?_
    exact a_zret dX10_isDummyItem_85 rfl (by decide) k
set_option maxRecDepth 100000 in
theorem w_X10_isDummyItem_112 {G : dh_G} {s0 : Int32} {h : dh_H} {Q : Option Value → dh_H → Prop} (k : ((s0) = 0 ∨ (s0) = 1) ∧ Q (some (.int (s0))) h) : dh_J G mX10_isDummyItem 112 [none, none, none] [.int (s0)] h Q := by
  obtain ⟨e1, k⟩ := k
  exact a_zret dX10_isDummyItem_112 rfl (dh_b1 e1) k
set_option maxRecDepth 100000 in
theorem w_X10_isClause_0 {G : dh_G} {h : dh_H} {Q : Option Value → dh_H → Prop} (k : ((¬ (h 61 4) = (nI 110)) → ((¬ (h 61 9) = 0) → ((¬ (h 61 4) = (nI 99)) → ((¬ (h 61 4) = (nI 100)) → dh_C G mX10_fails [.ref 61, .int (nI 1)] h (fun v h1 => dh_J G mX10_isClause 79 [none] (v.toList ++ []) h1 Q)) ∧ (((h 61 4) = (nI 100)) → dh_C G mX10_isDummyItem [.ref 61] h (fun v h1 => dh_J G mX10_isClause 71 [none] (v.toList ++ []) h1 Q))) ∧ (((h 61 4) = (nI 99)) → dh_C G mX10_isChildItem [.ref 61] h (fun v h1 => dh_J G mX10_isClause 55 [none] (v.toList ++ []) h1 Q))) ∧ (((h 61 9) = 0) → dh_C G mX10_fails [.ref 61, .int (nI 1)] h (fun v h1 => dh_J G mX10_isClause 41 [none] (v.toList ++ []) h1 Q))) ∧ (((h 61 4) = (nI 110)) → (((h 61 9) = 0) → dh_C G mX10_isHead [.ref 61] h (fun v h1 => dh_J G mX10_isClause 28 [none] (v.toList ++ []) h1 Q)) ∧ ((¬ (h 61 9) = 0) → dh_C G mX10_fails [.ref 61, .int (nI 3)] h (fun v h1 => dh_J G mX10_isClause 21 [none] (v.toList ++ []) h1 Q)))) : dh_J G mX10_isClause 0 [some (.ref 61)] [] h Q := by
  refine a_aload_n dX10_isClause_0 rfl ?_
  refine a_getI dX10_isClause_1 fF_RX10_93 rfl rfl ?_
  refine a_bipush dX10_isClause_4 (v := nI 110) (by decide) ?_
  refine a_icmp_ne 29 dX10_isClause_6 (by decide) (fun c1 => ?_) (fun c1 => ?_)
  · replace k := k.1 c1
    refine a_aload_n dX10_isClause_29 rfl ?_
    refine a_getI dX10_isClause_30 fF_RX10_116 rfl rfl ?_
    refine a_if_ne 42 dX10_isClause_33 (by decide) (fun c2 => ?_) (fun c2 => ?_)
    · replace k := k.1 c2
      refine a_aload_n dX10_isClause_42 rfl ?_
      refine a_getI dX10_isClause_43 fF_RX10_93 rfl rfl ?_
      refine a_bipush dX10_isClause_46 (v := nI 99) (by decide) ?_
      refine a_icmp_ne 58 dX10_isClause_48 (by decide) (fun c3 => ?_) (fun c3 => ?_)
      · replace k := k.1 c3
        refine a_aload_n dX10_isClause_58 rfl ?_
        refine a_getI dX10_isClause_59 fF_RX10_93 rfl rfl ?_
        refine a_bipush dX10_isClause_62 (v := nI 100) (by decide) ?_
        refine a_icmp_ne 74 dX10_isClause_64 (by decide) (fun c4 => ?_) (fun c4 => ?_)
        · replace k := k.1 c4
          refine a_aload_n dX10_isClause_74 rfl ?_
          refine a_iconst dX10_isClause_75 (v := nI 1) (by decide) ?_
          refine dh_drop 0 ?_
          exact a_callV1 dX10_isClause_76 (dh_Y_up cY_RX10_102 (by decide)) rfl rfl (Nat.le_of_ble_eq_true rfl) k
        · replace k := k.2 c4
          refine a_aload_n dX10_isClause_67 rfl ?_
          refine dh_drop 0 ?_
          exact a_callV0 dX10_isClause_68 (dh_Y_up cY_RX10_139 (by decide)) rfl rfl (Nat.le_of_ble_eq_true rfl) k
      · replace k := k.2 c3
        refine a_aload_n dX10_isClause_51 rfl ?_
        refine dh_drop 0 ?_
        exact a_callV0 dX10_isClause_52 (dh_Y_up cY_RX10_136 (by decide)) rfl rfl (Nat.le_of_ble_eq_true rfl) k
    · replace k := k.2 c2
      refine a_aload_n dX10_isClause_36 rfl ?_
      refine a_iconst dX10_isClause_37 (v := nI 1) (by decide) ?_
      refine dh_drop 0 ?_
      exact a_callV1 dX10_isClause_38 (dh_Y_up cY_RX10_102 (by decide)) rfl rfl (Nat.le_of_ble_eq_true rfl) k
  · replace k := k.2 c1
    refine a_aload_n dX10_isClause_9 rfl ?_
    refine a_getI dX10_isClause_10 fF_RX10_116 rfl rfl ?_
    refine a_if_eq 24 dX10_isClause_13 (by decide) (fun c5 => ?_) (fun c5 => ?_)
    · replace k := k.1 c5
      refine a_aload_n dX10_isClause_24 rfl ?_
      refine dh_drop 0 ?_
      exact a_callV0 dX10_isClause_25 (dh_Y_up cY_RX10_133 (by decide)) rfl rfl (Nat.le_of_ble_eq_true rfl) k
    · replace k := k.2 c5
      refine a_aload_n dX10_isClause_16 rfl ?_
      refine a_iconst dX10_isClause_17 (v := nI 3) (by decide) ?_
      refine dh_drop 0 ?_
      exact a_callV1 dX10_isClause_18 (dh_Y_up cY_RX10_102 (by decide)) rfl rfl (Nat.le_of_ble_eq_true rfl) k
theorem e_X10_isClause {G : dh_G} {h : dh_H} {Q : Option Value → dh_H → Prop} (k : ((¬ (h 61 4) = (nI 110)) → ((¬ (h 61 9) = 0) → ((¬ (h 61 4) = (nI 99)) → ((¬ (h 61 4) = (nI 100)) → dh_C G mX10_fails [.ref 61, .int (nI 1)] h (fun v h1 => dh_J G mX10_isClause 79 [none] (v.toList ++ []) h1 Q)) ∧ (((h 61 4) = (nI 100)) → dh_C G mX10_isDummyItem [.ref 61] h (fun v h1 => dh_J G mX10_isClause 71 [none] (v.toList ++ []) h1 Q))) ∧ (((h 61 4) = (nI 99)) → dh_C G mX10_isChildItem [.ref 61] h (fun v h1 => dh_J G mX10_isClause 55 [none] (v.toList ++ []) h1 Q))) ∧ (((h 61 9) = 0) → dh_C G mX10_fails [.ref 61, .int (nI 1)] h (fun v h1 => dh_J G mX10_isClause 41 [none] (v.toList ++ []) h1 Q))) ∧ (((h 61 4) = (nI 110)) → (((h 61 9) = 0) → dh_C G mX10_isHead [.ref 61] h (fun v h1 => dh_J G mX10_isClause 28 [none] (v.toList ++ []) h1 Q)) ∧ ((¬ (h 61 9) = 0) → dh_C G mX10_fails [.ref 61, .int (nI 3)] h (fun v h1 => dh_J G mX10_isClause 21 [none] (v.toList ++ []) h1 Q)))) : dh_C G mX10_isClause [.ref 61] h Q := dh_C_of [some (.ref 61)] (by decide) (Nat.le_of_ble_eq_true rfl) rfl (w_X10_isClause_0 k)
set_option maxRecDepth 100000 in
theorem w_X10_isClause_21 {G : dh_G} {s0 : Int32} {h : dh_H} {Q : Option Value → dh_H → Prop} (k : dh_J G mX10_isClause 28 [none] [.int (s0)] h Q) : dh_J G mX10_isClause 21 [none] [.int (s0)] h Q := by
  refine a_goto 28 dX10_isClause_21 (by decide) ?_
  exact k
set_option maxRecDepth 100000 in
theorem w_X10_isClause_28 {G : dh_G} {s0 : Int32} {h : dh_H} {Q : Option Value → dh_H → Prop} (k : ((s0) = 0 ∨ (s0) = 1) ∧ Q (some (.int (s0))) h) : dh_J G mX10_isClause 28 [none] [.int (s0)] h Q := by
  obtain ⟨e1, k⟩ := k
  exact a_zret dX10_isClause_28 rfl (dh_b1 e1) k
set_option maxRecDepth 100000 in
theorem w_X10_isClause_41 {G : dh_G} {s0 : Int32} {h : dh_H} {Q : Option Value → dh_H → Prop} (k : ((s0) = 0 ∨ (s0) = 1) ∧ Q (some (.int (s0))) h) : dh_J G mX10_isClause 41 [none] [.int (s0)] h Q := by
  obtain ⟨e1, k⟩ := k
  exact a_zret dX10_isClause_41 rfl (dh_b1 e1) k
set_option maxRecDepth 100000 in
theorem w_X10_isClause_55 {G : dh_G} {s0 : Int32} {h : dh_H} {Q : Option Value → dh_H → Prop} (k : dh_J G mX10_isClause 79 [none] [.int (s0)] h Q) : dh_J G mX10_isClause 55 [none] [.int (s0)] h Q := by
  refine a_goto 79 dX10_isClause_55 (by decide) ?_
  exact k
set_option maxRecDepth 100000 in
theorem w_X10_isClause_71 {G : dh_G} {s0 : Int32} {h : dh_H} {Q : Option Value → dh_H → Prop} (k : dh_J G mX10_isClause 79 [none] [.int (s0)] h Q) : dh_J G mX10_isClause 71 [none] [.int (s0)] h Q := by
  refine a_goto 79 dX10_isClause_71 (by decide) ?_
  exact k
set_option maxRecDepth 100000 in
theorem w_X10_isClause_79 {G : dh_G} {s0 : Int32} {h : dh_H} {Q : Option Value → dh_H → Prop} (k : ((s0) = 0 ∨ (s0) = 1) ∧ Q (some (.int (s0))) h) : dh_J G mX10_isClause 79 [none] [.int (s0)] h Q := by
  obtain ⟨e1, k⟩ := k
  exact a_zret dX10_isClause_79 rfl (dh_b1 e1) k
set_option maxRecDepth 100000 in
theorem w_X10_isRead_0 {G : dh_G} {h : dh_H} {Q : Option Value → dh_H → Prop} (k : dh_C G mX10_nextToken [.ref 61] (dh_s (dh_s (dh_s (dh_s (dh_s (dh_s h 61 2 (nI 0)) 61 9 (nI 0)) 61 10 (nI 0)) 61 11 (nI 0)) 61 12 (nI 0)) 61 13 (nI 0)) (fun v h1 => dh_J G mX10_isRead 34 [some (.ref 61)] (v.toList ++ []) h1 Q)) : dh_J G mX10_isRead 0 [some (.ref 61)] [] h Q := by
  refine a_aload_n dX10_isRead_0 rfl ?_
  refine a_iconst dX10_isRead_1 (v := nI 0) (by decide) ?_
  refine a_put dX10_isRead_2 fF_RX10_81 rfl rfl rfl rfl ?_
  refine a_aload_n dX10_isRead_5 rfl ?_
  refine a_iconst dX10_isRead_6 (v := nI 0) (by decide) ?_
  refine a_put dX10_isRead_7 fF_RX10_116 rfl rfl (by decide) (by decide) ?_
  refine a_aload_n dX10_isRead_10 rfl ?_
  refine a_iconst dX10_isRead_11 (v := nI 0) (by decide) ?_
  refine a_put dX10_isRead_12 fF_RX10_110 rfl rfl rfl rfl ?_
  refine a_aload_n dX10_isRead_15 rfl ?_
  refine a_iconst dX10_isRead_16 (v := nI 0) (by decide) ?_
  refine a_put dX10_isRead_17 fF_RX10_113 rfl rfl rfl rfl ?_
  refine a_aload_n dX10_isRead_20 rfl ?_
  refine a_iconst dX10_isRead_21 (v := nI 0) (by decide) ?_
  refine a_put dX10_isRead_22 fF_RX10_124 rfl rfl rfl rfl ?_
  refine a_aload_n dX10_isRead_25 rfl ?_
  refine a_iconst dX10_isRead_26 (v := nI 0) (by decide) ?_
  refine a_put dX10_isRead_27 fF_RX10_127 rfl rfl rfl rfl ?_
  refine a_aload_n dX10_isRead_30 rfl ?_
  exact a_callV0 dX10_isRead_31 (dh_Y_up cY_RX10_99 (by decide)) rfl rfl (Nat.le_of_ble_eq_true rfl) k
theorem e_X10_isRead {G : dh_G} {h : dh_H} {Q : Option Value → dh_H → Prop} (k : dh_C G mX10_nextToken [.ref 61] (dh_s (dh_s (dh_s (dh_s (dh_s (dh_s h 61 2 (nI 0)) 61 9 (nI 0)) 61 10 (nI 0)) 61 11 (nI 0)) 61 12 (nI 0)) 61 13 (nI 0)) (fun v h1 => dh_J G mX10_isRead 34 [some (.ref 61)] (v.toList ++ []) h1 Q)) : dh_C G mX10_isRead [.ref 61] h Q := dh_C_of [some (.ref 61)] (by decide) (Nat.le_of_ble_eq_true rfl) rfl (w_X10_isRead_0 k)
set_option maxRecDepth 100000 in
theorem w_X10_isRead_34 {G : dh_G} {h : dh_H} {Q : Option Value → dh_H → Prop} (k : (((h 61 4) = (-2 : Int32)) → Q (some (.int (nI 1))) h) ∧ ((¬ (h 61 4) = (-2 : Int32)) → dh_C G mX10_isClause [.ref 61] h (fun v h1 => dh_J G mX10_isRead 47 [some (.ref 61)] (v.toList ++ []) h1 Q))) : dh_J G mX10_isRead 34 [some (.ref 61)] [] h Q := by
  refine a_aload_n dX10_isRead_34 rfl ?_
  refine a_getI dX10_isRead_35 fF_RX10_93 rfl rfl ?_
  refine a_bipush dX10_isRead_38 (v := (-2 : Int32)) (by decide) ?_
  refine a_icmp_eq 59 dX10_isRead_40 (by decide) (fun c1 => ?_) (fun c1 => ?_)
  · replace k := k.1 c1
    refine a_iconst dX10_isRead_59 (v := nI 1) (by decide) ?_
    exact a_zret dX10_isRead_60 rfl (by decide) k
  · replace k := k.2 c1
    refine a_aload_n dX10_isRead_43 rfl ?_
    exact a_callV0 dX10_isRead_44 (dh_Y_up cY_RX10_142 (by decide)) rfl rfl (Nat.le_of_ble_eq_true rfl) k
set_option maxRecDepth 100000 in
theorem w_X10_isRead_47 {G : dh_G} {s0 : Int32} {h : dh_H} {Q : Option Value → dh_H → Prop} (k : ((¬ s0 = 0) → dh_C G mX10_nextToken [.ref 61] h (fun v h1 => dh_J G mX10_isRead 56 [some (.ref 61)] (v.toList ++ []) h1 Q)) ∧ ((s0 = 0) → Q (some (.int (nI 0))) h)) : dh_J G mX10_isRead 47 [some (.ref 61)] [.int (s0)] h Q := by
  refine a_if_ne 52 dX10_isRead_47 (by decide) (fun c1 => ?_) (fun c1 => ?_)
  · replace k := k.1 c1
    refine a_aload_n dX10_isRead_52 rfl ?_
    exact a_callV0 dX10_isRead_53 (dh_Y_up cY_RX10_99 (by decide)) rfl rfl (Nat.le_of_ble_eq_true rfl) k
  · replace k := k.2 c1
    refine a_iconst dX10_isRead_50 (v := nI 0) (by decide) ?_
    exact a_zret dX10_isRead_51 rfl (by decide) k
set_option maxRecDepth 100000 in
theorem w_X10_isRead_56 {G : dh_G} {h : dh_H} {Q : Option Value → dh_H → Prop} (k : dh_J G mX10_isRead 34 [some (.ref 61)] [] h Q) : dh_J G mX10_isRead 56 [some (.ref 61)] [] h Q := by
  refine a_goto 34 dX10_isRead_56 (by decide) ?_
  exact k
set_option maxRecDepth 100000 in
theorem w_X10_bring_63_65_0 {G : dh_G} {x1 x3 x4 : Int32} {h : dh_H} {Q : Option Value → dh_H → Prop} (k : dh_J G mX10_bring 3 [some (.ref 63), some (.int (x1)), some (.ref 65), some (.int (x3)), some (.int (x4)), some (.int (nI 0))] [] h Q) : dh_J G mX10_bring 0 [some (.ref 63), some (.int (x1)), some (.ref 65), some (.int (x3)), some (.int (x4)), none] [] h Q := by
  refine a_iconst dX10_bring_0 (v := nI 0) (by decide) ?_
  refine a_istore dX10_bring_1 (by decide) rfl ?_
  exact k
theorem e_X10_bring_63_65 {G : dh_G} {x1 x3 x4 : Int32} {h : dh_H} {Q : Option Value → dh_H → Prop} (k : dh_J G mX10_bring 3 [some (.ref 63), some (.int (x1)), some (.ref 65), some (.int (x3)), some (.int (x4)), some (.int (nI 0))] [] h Q) : dh_C G mX10_bring [.ref 63, .int (x1), .ref 65, .int (x3), .int (x4)] h Q := dh_C_of [some (.ref 63), some (.int (x1)), some (.ref 65), some (.int (x3)), some (.int (x4)), none] (by decide) (Nat.le_of_ble_eq_true rfl) rfl (w_X10_bring_63_65_0 k)
set_option maxRecDepth 100000 in
theorem w_X10_bring_63_65_3 {G : dh_G} {x1 x3 x4 x5 : Int32} {h : dh_H} {Q : Option Value → dh_H → Prop} (k : ((x4 ≤ x5) → Q none h) ∧ ((¬ x4 ≤ x5) → (vp_in (x1 + x5) 12) ∧ (vp_in (x3 + x5) 12) ∧ dh_J G mX10_bring 3 [some (.ref 63), some (.int (x1)), some (.ref 65), some (.int (x3)), some (.int (x4)), some (.int (x5 + (nI 1)))] [] (dh_s h 65 (x3 + x5).toNatClampNeg (h 63 (x1 + x5).toNatClampNeg)) Q)) : dh_J G mX10_bring 3 [some (.ref 63), some (.int (x1)), some (.ref 65), some (.int (x3)), some (.int (x4)), some (.int (x5))] [] h Q := by
  refine a_iload dX10_bring_3 rfl ?_
  refine a_iload dX10_bring_5 rfl ?_
  refine a_icmp_ge 28 dX10_bring_7 (by decide) (fun c1 => ?_) (fun c1 => ?_)
  · replace k := k.1 c1
    exact a_vret dX10_bring_28 rfl k
  · replace k := k.2 c1
    refine a_aload_n dX10_bring_10 rfl ?_
    refine a_iload_n dX10_bring_11 rfl ?_
    refine a_iload dX10_bring_12 rfl ?_
    refine a_iadd dX10_bring_14 ?_
    refine a_aload_n dX10_bring_15 rfl ?_
    refine a_iload_n dX10_bring_16 rfl ?_
    refine a_iload dX10_bring_17 rfl ?_
    refine a_iadd dX10_bring_19 ?_
    obtain ⟨e2, k⟩ := k
    refine a_iald dX10_bring_20 rfl e2 ?_
    obtain ⟨e3, k⟩ := k
    refine a_iast dX10_bring_21 rfl e3 ?_
    refine a_iinc dX10_bring_22 (v := x5 + (nI 1)) rfl (by rfl) (by decide) rfl ?_
    refine a_goto 3 dX10_bring_25 (by decide) ?_
    exact k
set_option maxRecDepth 100000 in
theorem w_X10_bring_64_66_0 {G : dh_G} {x1 x3 x4 : Int32} {h : dh_H} {Q : Option Value → dh_H → Prop} (k : dh_J G mX10_bring 3 [some (.ref 64), some (.int (x1)), some (.ref 66), some (.int (x3)), some (.int (x4)), some (.int (nI 0))] [] h Q) : dh_J G mX10_bring 0 [some (.ref 64), some (.int (x1)), some (.ref 66), some (.int (x3)), some (.int (x4)), none] [] h Q := by
  refine a_iconst dX10_bring_0 (v := nI 0) (by decide) ?_
  refine a_istore dX10_bring_1 (by decide) rfl ?_
  exact k
theorem e_X10_bring_64_66 {G : dh_G} {x1 x3 x4 : Int32} {h : dh_H} {Q : Option Value → dh_H → Prop} (k : dh_J G mX10_bring 3 [some (.ref 64), some (.int (x1)), some (.ref 66), some (.int (x3)), some (.int (x4)), some (.int (nI 0))] [] h Q) : dh_C G mX10_bring [.ref 64, .int (x1), .ref 66, .int (x3), .int (x4)] h Q := dh_C_of [some (.ref 64), some (.int (x1)), some (.ref 66), some (.int (x3)), some (.int (x4)), none] (by decide) (Nat.le_of_ble_eq_true rfl) rfl (w_X10_bring_64_66_0 k)
set_option maxRecDepth 100000 in
theorem w_X10_bring_64_66_3 {G : dh_G} {x1 x3 x4 x5 : Int32} {h : dh_H} {Q : Option Value → dh_H → Prop} (k : ((x4 ≤ x5) → Q none h) ∧ ((¬ x4 ≤ x5) → (vp_in (x1 + x5) 24) ∧ (vp_in (x3 + x5) 24) ∧ dh_J G mX10_bring 3 [some (.ref 64), some (.int (x1)), some (.ref 66), some (.int (x3)), some (.int (x4)), some (.int (x5 + (nI 1)))] [] (dh_s h 66 (x3 + x5).toNatClampNeg (h 64 (x1 + x5).toNatClampNeg)) Q)) : dh_J G mX10_bring 3 [some (.ref 64), some (.int (x1)), some (.ref 66), some (.int (x3)), some (.int (x4)), some (.int (x5))] [] h Q := by
  refine a_iload dX10_bring_3 rfl ?_
  refine a_iload dX10_bring_5 rfl ?_
  refine a_icmp_ge 28 dX10_bring_7 (by decide) (fun c1 => ?_) (fun c1 => ?_)
  · replace k := k.1 c1
    exact a_vret dX10_bring_28 rfl k
  · replace k := k.2 c1
    refine a_aload_n dX10_bring_10 rfl ?_
    refine a_iload_n dX10_bring_11 rfl ?_
    refine a_iload dX10_bring_12 rfl ?_
    refine a_iadd dX10_bring_14 ?_
    refine a_aload_n dX10_bring_15 rfl ?_
    refine a_iload_n dX10_bring_16 rfl ?_
    refine a_iload dX10_bring_17 rfl ?_
    refine a_iadd dX10_bring_19 ?_
    obtain ⟨e2, k⟩ := k
    refine a_iald dX10_bring_20 rfl e2 ?_
    obtain ⟨e3, k⟩ := k
    refine a_iast dX10_bring_21 rfl e3 ?_
    refine a_iinc dX10_bring_22 (v := x5 + (nI 1)) rfl (by rfl) (by decide) rfl ?_
    refine a_goto 3 dX10_bring_25 (by decide) ?_
    exact k
set_option maxRecDepth 100000 in
theorem w_X10_bring_69_69_0 {G : dh_G} {x1 x3 x4 : Int32} {h : dh_H} {Q : Option Value → dh_H → Prop} (k : dh_J G mX10_bring 3 [some (.ref 69), some (.int (x1)), some (.ref 69), some (.int (x3)), some (.int (x4)), some (.int (nI 0))] [] h Q) : dh_J G mX10_bring 0 [some (.ref 69), some (.int (x1)), some (.ref 69), some (.int (x3)), some (.int (x4)), none] [] h Q := by
  refine a_iconst dX10_bring_0 (v := nI 0) (by decide) ?_
  refine a_istore dX10_bring_1 (by decide) rfl ?_
  exact k
theorem e_X10_bring_69_69 {G : dh_G} {x1 x3 x4 : Int32} {h : dh_H} {Q : Option Value → dh_H → Prop} (k : dh_J G mX10_bring 3 [some (.ref 69), some (.int (x1)), some (.ref 69), some (.int (x3)), some (.int (x4)), some (.int (nI 0))] [] h Q) : dh_C G mX10_bring [.ref 69, .int (x1), .ref 69, .int (x3), .int (x4)] h Q := dh_C_of [some (.ref 69), some (.int (x1)), some (.ref 69), some (.int (x3)), some (.int (x4)), none] (by decide) (Nat.le_of_ble_eq_true rfl) rfl (w_X10_bring_69_69_0 k)
set_option maxRecDepth 100000 in
theorem w_X10_bring_69_69_3 {G : dh_G} {x1 x3 x4 x5 : Int32} {h : dh_H} {Q : Option Value → dh_H → Prop} (k : ((x4 ≤ x5) → Q none h) ∧ ((¬ x4 ≤ x5) → (vp_in (x1 + x5) 640) ∧ (vp_in (x3 + x5) 640) ∧ dh_J G mX10_bring 3 [some (.ref 69), some (.int (x1)), some (.ref 69), some (.int (x3)), some (.int (x4)), some (.int (x5 + (nI 1)))] [] (dh_s h 69 (x3 + x5).toNatClampNeg (h 69 (x1 + x5).toNatClampNeg)) Q)) : dh_J G mX10_bring 3 [some (.ref 69), some (.int (x1)), some (.ref 69), some (.int (x3)), some (.int (x4)), some (.int (x5))] [] h Q := by
  refine a_iload dX10_bring_3 rfl ?_
  refine a_iload dX10_bring_5 rfl ?_
  refine a_icmp_ge 28 dX10_bring_7 (by decide) (fun c1 => ?_) (fun c1 => ?_)
  · replace k := k.1 c1
    exact a_vret dX10_bring_28 rfl k
  · replace k := k.2 c1
    refine a_aload_n dX10_bring_10 rfl ?_
    refine a_iload_n dX10_bring_11 rfl ?_
    refine a_iload dX10_bring_12 rfl ?_
    refine a_iadd dX10_bring_14 ?_
    refine a_aload_n dX10_bring_15 rfl ?_
    refine a_iload_n dX10_bring_16 rfl ?_
    refine a_iload dX10_bring_17 rfl ?_
    refine a_iadd dX10_bring_19 ?_
    obtain ⟨e2, k⟩ := k
    refine a_iald dX10_bring_20 rfl e2 ?_
    obtain ⟨e3, k⟩ := k
    refine a_iast dX10_bring_21 rfl e3 ?_
    refine a_iinc dX10_bring_22 (v := x5 + (nI 1)) rfl (by rfl) (by decide) rfl ?_
    refine a_goto 3 dX10_bring_25 (by decide) ?_
    exact k
set_option maxRecDepth 100000 in
theorem w_X10_bring_68_69_0 {G : dh_G} {x1 x3 x4 : Int32} {h : dh_H} {Q : Option Value → dh_H → Prop} (k : dh_J G mX10_bring 3 [some (.ref 68), some (.int (x1)), some (.ref 69), some (.int (x3)), some (.int (x4)), some (.int (nI 0))] [] h Q) : dh_J G mX10_bring 0 [some (.ref 68), some (.int (x1)), some (.ref 69), some (.int (x3)), some (.int (x4)), none] [] h Q := by
  refine a_iconst dX10_bring_0 (v := nI 0) (by decide) ?_
  refine a_istore dX10_bring_1 (by decide) rfl ?_
  exact k
theorem e_X10_bring_68_69 {G : dh_G} {x1 x3 x4 : Int32} {h : dh_H} {Q : Option Value → dh_H → Prop} (k : dh_J G mX10_bring 3 [some (.ref 68), some (.int (x1)), some (.ref 69), some (.int (x3)), some (.int (x4)), some (.int (nI 0))] [] h Q) : dh_C G mX10_bring [.ref 68, .int (x1), .ref 69, .int (x3), .int (x4)] h Q := dh_C_of [some (.ref 68), some (.int (x1)), some (.ref 69), some (.int (x3)), some (.int (x4)), none] (by decide) (Nat.le_of_ble_eq_true rfl) rfl (w_X10_bring_68_69_0 k)
set_option maxRecDepth 100000 in
theorem w_X10_bring_68_69_3 {G : dh_G} {x1 x3 x4 x5 : Int32} {h : dh_H} {Q : Option Value → dh_H → Prop} (k : ((x4 ≤ x5) → Q none h) ∧ ((¬ x4 ≤ x5) → (vp_in (x1 + x5) 32) ∧ (vp_in (x3 + x5) 640) ∧ dh_J G mX10_bring 3 [some (.ref 68), some (.int (x1)), some (.ref 69), some (.int (x3)), some (.int (x4)), some (.int (x5 + (nI 1)))] [] (dh_s h 69 (x3 + x5).toNatClampNeg (h 68 (x1 + x5).toNatClampNeg)) Q)) : dh_J G mX10_bring 3 [some (.ref 68), some (.int (x1)), some (.ref 69), some (.int (x3)), some (.int (x4)), some (.int (x5))] [] h Q := by
  refine a_iload dX10_bring_3 rfl ?_
  refine a_iload dX10_bring_5 rfl ?_
  refine a_icmp_ge 28 dX10_bring_7 (by decide) (fun c1 => ?_) (fun c1 => ?_)
  · replace k := k.1 c1
    exact a_vret dX10_bring_28 rfl k
  · replace k := k.2 c1
    refine a_aload_n dX10_bring_10 rfl ?_
    refine a_iload_n dX10_bring_11 rfl ?_
    refine a_iload dX10_bring_12 rfl ?_
    refine a_iadd dX10_bring_14 ?_
    refine a_aload_n dX10_bring_15 rfl ?_
    refine a_iload_n dX10_bring_16 rfl ?_
    refine a_iload dX10_bring_17 rfl ?_
    refine a_iadd dX10_bring_19 ?_
    obtain ⟨e2, k⟩ := k
    refine a_iald dX10_bring_20 rfl e2 ?_
    obtain ⟨e3, k⟩ := k
    refine a_iast dX10_bring_21 rfl e3 ?_
    refine a_iinc dX10_bring_22 (v := x5 + (nI 1)) rfl (by rfl) (by decide) rfl ?_
    refine a_goto 3 dX10_bring_25 (by decide) ?_
    exact k
set_option maxRecDepth 100000 in
theorem w_X10_bring_69_68_0 {G : dh_G} {x1 x3 x4 : Int32} {h : dh_H} {Q : Option Value → dh_H → Prop} (k : dh_J G mX10_bring 3 [some (.ref 69), some (.int (x1)), some (.ref 68), some (.int (x3)), some (.int (x4)), some (.int (nI 0))] [] h Q) : dh_J G mX10_bring 0 [some (.ref 69), some (.int (x1)), some (.ref 68), some (.int (x3)), some (.int (x4)), none] [] h Q := by
  refine a_iconst dX10_bring_0 (v := nI 0) (by decide) ?_
  refine a_istore dX10_bring_1 (by decide) rfl ?_
  exact k
theorem e_X10_bring_69_68 {G : dh_G} {x1 x3 x4 : Int32} {h : dh_H} {Q : Option Value → dh_H → Prop} (k : dh_J G mX10_bring 3 [some (.ref 69), some (.int (x1)), some (.ref 68), some (.int (x3)), some (.int (x4)), some (.int (nI 0))] [] h Q) : dh_C G mX10_bring [.ref 69, .int (x1), .ref 68, .int (x3), .int (x4)] h Q := dh_C_of [some (.ref 69), some (.int (x1)), some (.ref 68), some (.int (x3)), some (.int (x4)), none] (by decide) (Nat.le_of_ble_eq_true rfl) rfl (w_X10_bring_69_68_0 k)
set_option maxRecDepth 100000 in
theorem w_X10_bring_69_68_3 {G : dh_G} {x1 x3 x4 x5 : Int32} {h : dh_H} {Q : Option Value → dh_H → Prop} (k : ((x4 ≤ x5) → Q none h) ∧ ((¬ x4 ≤ x5) → (vp_in (x1 + x5) 640) ∧ (vp_in (x3 + x5) 32) ∧ dh_J G mX10_bring 3 [some (.ref 69), some (.int (x1)), some (.ref 68), some (.int (x3)), some (.int (x4)), some (.int (x5 + (nI 1)))] [] (dh_s h 68 (x3 + x5).toNatClampNeg (h 69 (x1 + x5).toNatClampNeg)) Q)) : dh_J G mX10_bring 3 [some (.ref 69), some (.int (x1)), some (.ref 68), some (.int (x3)), some (.int (x4)), some (.int (x5))] [] h Q := by
  refine a_iload dX10_bring_3 rfl ?_
  refine a_iload dX10_bring_5 rfl ?_
  refine a_icmp_ge 28 dX10_bring_7 (by decide) (fun c1 => ?_) (fun c1 => ?_)
  · replace k := k.1 c1
    exact a_vret dX10_bring_28 rfl k
  · replace k := k.2 c1
    refine a_aload_n dX10_bring_10 rfl ?_
    refine a_iload_n dX10_bring_11 rfl ?_
    refine a_iload dX10_bring_12 rfl ?_
    refine a_iadd dX10_bring_14 ?_
    refine a_aload_n dX10_bring_15 rfl ?_
    refine a_iload_n dX10_bring_16 rfl ?_
    refine a_iload dX10_bring_17 rfl ?_
    refine a_iadd dX10_bring_19 ?_
    obtain ⟨e2, k⟩ := k
    refine a_iald dX10_bring_20 rfl e2 ?_
    obtain ⟨e3, k⟩ := k
    refine a_iast dX10_bring_21 rfl e3 ?_
    refine a_iinc dX10_bring_22 (v := x5 + (nI 1)) rfl (by rfl) (by decide) rfl ?_
    refine a_goto 3 dX10_bring_25 (by decide) ?_
    exact k
set_option maxRecDepth 100000 in
theorem w_X10_bring_75_76_0 {G : dh_G} {x1 x3 x4 : Int32} {h : dh_H} {Q : Option Value → dh_H → Prop} (k : dh_J G mX10_bring 3 [some (.ref 75), some (.int (x1)), some (.ref 76), some (.int (x3)), some (.int (x4)), some (.int (nI 0))] [] h Q) : dh_J G mX10_bring 0 [some (.ref 75), some (.int (x1)), some (.ref 76), some (.int (x3)), some (.int (x4)), none] [] h Q := by
  refine a_iconst dX10_bring_0 (v := nI 0) (by decide) ?_
  refine a_istore dX10_bring_1 (by decide) rfl ?_
  exact k
theorem e_X10_bring_75_76 {G : dh_G} {x1 x3 x4 : Int32} {h : dh_H} {Q : Option Value → dh_H → Prop} (k : dh_J G mX10_bring 3 [some (.ref 75), some (.int (x1)), some (.ref 76), some (.int (x3)), some (.int (x4)), some (.int (nI 0))] [] h Q) : dh_C G mX10_bring [.ref 75, .int (x1), .ref 76, .int (x3), .int (x4)] h Q := dh_C_of [some (.ref 75), some (.int (x1)), some (.ref 76), some (.int (x3)), some (.int (x4)), none] (by decide) (Nat.le_of_ble_eq_true rfl) rfl (w_X10_bring_75_76_0 k)
set_option maxRecDepth 100000 in
theorem w_X10_bring_75_76_3 {G : dh_G} {x1 x3 x4 x5 : Int32} {h : dh_H} {Q : Option Value → dh_H → Prop} (k : ((x4 ≤ x5) → Q none h) ∧ ((¬ x4 ≤ x5) → (vp_in (x1 + x5) 6) ∧ (vp_in (x3 + x5) 6) ∧ dh_J G mX10_bring 3 [some (.ref 75), some (.int (x1)), some (.ref 76), some (.int (x3)), some (.int (x4)), some (.int (x5 + (nI 1)))] [] (dh_s h 76 (x3 + x5).toNatClampNeg (h 75 (x1 + x5).toNatClampNeg)) Q)) : dh_J G mX10_bring 3 [some (.ref 75), some (.int (x1)), some (.ref 76), some (.int (x3)), some (.int (x4)), some (.int (x5))] [] h Q := by
  refine a_iload dX10_bring_3 rfl ?_
  refine a_iload dX10_bring_5 rfl ?_
  refine a_icmp_ge 28 dX10_bring_7 (by decide) (fun c1 => ?_) (fun c1 => ?_)
  · replace k := k.1 c1
    exact a_vret dX10_bring_28 rfl k
  · replace k := k.2 c1
    refine a_aload_n dX10_bring_10 rfl ?_
    refine a_iload_n dX10_bring_11 rfl ?_
    refine a_iload dX10_bring_12 rfl ?_
    refine a_iadd dX10_bring_14 ?_
    refine a_aload_n dX10_bring_15 rfl ?_
    refine a_iload_n dX10_bring_16 rfl ?_
    refine a_iload dX10_bring_17 rfl ?_
    refine a_iadd dX10_bring_19 ?_
    obtain ⟨e2, k⟩ := k
    refine a_iald dX10_bring_20 rfl e2 ?_
    obtain ⟨e3, k⟩ := k
    refine a_iast dX10_bring_21 rfl e3 ?_
    refine a_iinc dX10_bring_22 (v := x5 + (nI 1)) rfl (by rfl) (by decide) rfl ?_
    refine a_goto 3 dX10_bring_25 (by decide) ?_
    exact k
set_option maxRecDepth 100000 in
theorem w_X10_bring_68_70_0 {G : dh_G} {x1 x3 x4 : Int32} {h : dh_H} {Q : Option Value → dh_H → Prop} (k : dh_J G mX10_bring 3 [some (.ref 68), some (.int (x1)), some (.ref 70), some (.int (x3)), some (.int (x4)), some (.int (nI 0))] [] h Q) : dh_J G mX10_bring 0 [some (.ref 68), some (.int (x1)), some (.ref 70), some (.int (x3)), some (.int (x4)), none] [] h Q := by
  refine a_iconst dX10_bring_0 (v := nI 0) (by decide) ?_
  refine a_istore dX10_bring_1 (by decide) rfl ?_
  exact k
theorem e_X10_bring_68_70 {G : dh_G} {x1 x3 x4 : Int32} {h : dh_H} {Q : Option Value → dh_H → Prop} (k : dh_J G mX10_bring 3 [some (.ref 68), some (.int (x1)), some (.ref 70), some (.int (x3)), some (.int (x4)), some (.int (nI 0))] [] h Q) : dh_C G mX10_bring [.ref 68, .int (x1), .ref 70, .int (x3), .int (x4)] h Q := dh_C_of [some (.ref 68), some (.int (x1)), some (.ref 70), some (.int (x3)), some (.int (x4)), none] (by decide) (Nat.le_of_ble_eq_true rfl) rfl (w_X10_bring_68_70_0 k)
set_option maxRecDepth 100000 in
theorem w_X10_bring_68_70_3 {G : dh_G} {x1 x3 x4 x5 : Int32} {h : dh_H} {Q : Option Value → dh_H → Prop} (k : ((x4 ≤ x5) → Q none h) ∧ ((¬ x4 ≤ x5) → (vp_in (x1 + x5) 32) ∧ (vp_in (x3 + x5) 64) ∧ dh_J G mX10_bring 3 [some (.ref 68), some (.int (x1)), some (.ref 70), some (.int (x3)), some (.int (x4)), some (.int (x5 + (nI 1)))] [] (dh_s h 70 (x3 + x5).toNatClampNeg (h 68 (x1 + x5).toNatClampNeg)) Q)) : dh_J G mX10_bring 3 [some (.ref 68), some (.int (x1)), some (.ref 70), some (.int (x3)), some (.int (x4)), some (.int (x5))] [] h Q := by
  refine a_iload dX10_bring_3 rfl ?_
  refine a_iload dX10_bring_5 rfl ?_
  refine a_icmp_ge 28 dX10_bring_7 (by decide) (fun c1 => ?_) (fun c1 => ?_)
  · replace k := k.1 c1
    exact a_vret dX10_bring_28 rfl k
  · replace k := k.2 c1
    refine a_aload_n dX10_bring_10 rfl ?_
    refine a_iload_n dX10_bring_11 rfl ?_
    refine a_iload dX10_bring_12 rfl ?_
    refine a_iadd dX10_bring_14 ?_
    refine a_aload_n dX10_bring_15 rfl ?_
    refine a_iload_n dX10_bring_16 rfl ?_
    refine a_iload dX10_bring_17 rfl ?_
    refine a_iadd dX10_bring_19 ?_
    obtain ⟨e2, k⟩ := k
    refine a_iald dX10_bring_20 rfl e2 ?_
    obtain ⟨e3, k⟩ := k
    refine a_iast dX10_bring_21 rfl e3 ?_
    refine a_iinc dX10_bring_22 (v := x5 + (nI 1)) rfl (by rfl) (by decide) rfl ?_
    refine a_goto 3 dX10_bring_25 (by decide) ?_
    exact k
set_option maxRecDepth 100000 in
theorem w_X10_bring_70_68_0 {G : dh_G} {x1 x3 x4 : Int32} {h : dh_H} {Q : Option Value → dh_H → Prop} (k : dh_J G mX10_bring 3 [some (.ref 70), some (.int (x1)), some (.ref 68), some (.int (x3)), some (.int (x4)), some (.int (nI 0))] [] h Q) : dh_J G mX10_bring 0 [some (.ref 70), some (.int (x1)), some (.ref 68), some (.int (x3)), some (.int (x4)), none] [] h Q := by
  refine a_iconst dX10_bring_0 (v := nI 0) (by decide) ?_
  refine a_istore dX10_bring_1 (by decide) rfl ?_
  exact k
theorem e_X10_bring_70_68 {G : dh_G} {x1 x3 x4 : Int32} {h : dh_H} {Q : Option Value → dh_H → Prop} (k : dh_J G mX10_bring 3 [some (.ref 70), some (.int (x1)), some (.ref 68), some (.int (x3)), some (.int (x4)), some (.int (nI 0))] [] h Q) : dh_C G mX10_bring [.ref 70, .int (x1), .ref 68, .int (x3), .int (x4)] h Q := dh_C_of [some (.ref 70), some (.int (x1)), some (.ref 68), some (.int (x3)), some (.int (x4)), none] (by decide) (Nat.le_of_ble_eq_true rfl) rfl (w_X10_bring_70_68_0 k)
set_option maxRecDepth 100000 in
theorem w_X10_bring_70_68_3 {G : dh_G} {x1 x3 x4 x5 : Int32} {h : dh_H} {Q : Option Value → dh_H → Prop} (k : ((x4 ≤ x5) → Q none h) ∧ ((¬ x4 ≤ x5) → (vp_in (x1 + x5) 64) ∧ (vp_in (x3 + x5) 32) ∧ dh_J G mX10_bring 3 [some (.ref 70), some (.int (x1)), some (.ref 68), some (.int (x3)), some (.int (x4)), some (.int (x5 + (nI 1)))] [] (dh_s h 68 (x3 + x5).toNatClampNeg (h 70 (x1 + x5).toNatClampNeg)) Q)) : dh_J G mX10_bring 3 [some (.ref 70), some (.int (x1)), some (.ref 68), some (.int (x3)), some (.int (x4)), some (.int (x5))] [] h Q := by
  refine a_iload dX10_bring_3 rfl ?_
  refine a_iload dX10_bring_5 rfl ?_
  refine a_icmp_ge 28 dX10_bring_7 (by decide) (fun c1 => ?_) (fun c1 => ?_)
  · replace k := k.1 c1
    exact a_vret dX10_bring_28 rfl k
  · replace k := k.2 c1
    refine a_aload_n dX10_bring_10 rfl ?_
    refine a_iload_n dX10_bring_11 rfl ?_
    refine a_iload dX10_bring_12 rfl ?_
    refine a_iadd dX10_bring_14 ?_
    refine a_aload_n dX10_bring_15 rfl ?_
    refine a_iload_n dX10_bring_16 rfl ?_
    refine a_iload dX10_bring_17 rfl ?_
    refine a_iadd dX10_bring_19 ?_
    obtain ⟨e2, k⟩ := k
    refine a_iald dX10_bring_20 rfl e2 ?_
    obtain ⟨e3, k⟩ := k
    refine a_iast dX10_bring_21 rfl e3 ?_
    refine a_iinc dX10_bring_22 (v := x5 + (nI 1)) rfl (by rfl) (by decide) rfl ?_
    refine a_goto 3 dX10_bring_25 (by decide) ?_
    exact k
set_option maxRecDepth 100000 in
theorem w_X10_nursery_0 {G : dh_G} {h : dh_H} {Q : Option Value → dh_H → Prop} (k : dh_C G mX10_isRead [.ref 61] h (fun v h1 => dh_J G mX10_nursery 4 [some (.ref 61), none, none] (v.toList ++ []) h1 Q)) : dh_J G mX10_nursery 0 [some (.ref 61), none, none] [] h Q := by
  refine a_aload_n dX10_nursery_0 rfl ?_
  exact a_callV0 dX10_nursery_1 (dh_Y_up cY_RX10_145 (by decide)) rfl rfl (Nat.le_of_ble_eq_true rfl) k
theorem e_X10_nursery {G : dh_G} {h : dh_H} {Q : Option Value → dh_H → Prop} (k : dh_C G mX10_isRead [.ref 61] h (fun v h1 => dh_J G mX10_nursery 4 [some (.ref 61), none, none] (v.toList ++ []) h1 Q)) : dh_C G mX10_nursery [.ref 61] h Q := dh_C_of [some (.ref 61), none, none] (by decide) (Nat.le_of_ble_eq_true rfl) rfl (w_X10_nursery_0 k)
set_option maxRecDepth 100000 in
theorem w_X10_nursery_4 {G : dh_G} {s0 : Int32} {h : dh_H} {Q : Option Value → dh_H → Prop} (k : ((¬ s0 = 0) → ((h 61 9) = 0 ∨ (h 61 9) = 1) ∧ dh_C G mX10_bring [.ref 63, .int (nI 0), .ref 65, .int (nI 0), .int (nI 12)] (dh_s (dh_s (dh_s (dh_s (dh_s (dh_s (dh_s h 61 0 (nI 0)) 61 7 (-1 : Int32)) 61 16 (h 61 9)) 61 17 (h 61 10)) 61 18 (h 61 11)) 61 19 (h 61 12)) 61 20 (h 61 13)) (fun v h1 => dh_J G mX10_nursery 82 [some (.ref 61), none, none] (v.toList ++ []) h1 Q)) ∧ ((s0 = 0) → Q (some (.int ((-10 : Int32) - (h 61 8)))) (dh_s h 61 0 (nI 0)))) : dh_J G mX10_nursery 4 [some (.ref 61), none, none] [.int (s0)] h Q := by
  refine a_istore_n dX10_nursery_4 (by decide) rfl ?_
  refine a_aload_n dX10_nursery_5 rfl ?_
  refine a_iconst dX10_nursery_6 (v := nI 0) (by decide) ?_
  refine a_put dX10_nursery_7 fF_RX10_77 rfl rfl rfl rfl ?_
  refine a_iload_n dX10_nursery_10 rfl ?_
  refine a_if_ne 22 dX10_nursery_11 (by decide) (fun c1 => ?_) (fun c1 => ?_)
  · replace k := k.1 c1
    refine a_aload_n dX10_nursery_22 rfl ?_
    refine a_iconst dX10_nursery_23 (v := (-1 : Int32)) (by decide) ?_
    refine a_put dX10_nursery_24 fF_RX10_13 rfl rfl rfl rfl ?_
    refine a_aload_n dX10_nursery_27 rfl ?_
    refine a_aload_n dX10_nursery_28 rfl ?_
    refine a_getI dX10_nursery_29 fF_RX10_116 rfl rfl ?_
    obtain ⟨e2, k⟩ := k
    refine a_put dX10_nursery_32 fF_RX10_148 rfl rfl (dh_b1 e2) (dh_b2 e2) ?_
    refine a_aload_n dX10_nursery_35 rfl ?_
    refine a_aload_n dX10_nursery_36 rfl ?_
    refine a_getI dX10_nursery_37 fF_RX10_110 rfl rfl ?_
    refine a_put dX10_nursery_40 fF_RX10_151 rfl rfl rfl rfl ?_
    refine a_aload_n dX10_nursery_43 rfl ?_
    refine a_aload_n dX10_nursery_44 rfl ?_
    refine a_getI dX10_nursery_45 fF_RX10_113 rfl rfl ?_
    refine a_put dX10_nursery_48 fF_RX10_154 rfl rfl rfl rfl ?_
    refine a_aload_n dX10_nursery_51 rfl ?_
    refine a_aload_n dX10_nursery_52 rfl ?_
    refine a_getI dX10_nursery_53 fF_RX10_124 rfl rfl ?_
    refine a_put dX10_nursery_56 fF_RX10_66 rfl rfl rfl rfl ?_
    refine a_aload_n dX10_nursery_59 rfl ?_
    refine a_aload_n dX10_nursery_60 rfl ?_
    refine a_getI dX10_nursery_61 fF_RX10_127 rfl rfl ?_
    refine a_put dX10_nursery_64 fF_RX10_73 rfl rfl rfl rfl ?_
    refine a_aload_n dX10_nursery_67 rfl ?_
    refine a_getR dX10_nursery_68 fF_RX10_17 rfl rfl ?_
    refine a_iconst dX10_nursery_71 (v := nI 0) (by decide) ?_
    refine a_aload_n dX10_nursery_72 rfl ?_
    refine a_getR dX10_nursery_73 fF_RX10_23 rfl rfl ?_
    refine a_iconst dX10_nursery_76 (v := nI 0) (by decide) ?_
    refine a_bipush dX10_nursery_77 (v := nI 12) (by decide) ?_
    refine dh_drop 1 ?_
    exact a_callS5 dX10_nursery_79 (dh_Y_up cY_RX10_157 (by decide)) (Nat.le_of_ble_eq_true rfl) k
  · replace k := k.2 c1
    refine a_bipush dX10_nursery_14 (v := (-10 : Int32)) (by decide) ?_
    refine a_aload_n dX10_nursery_16 rfl ?_
    refine a_getI dX10_nursery_17 fF_RX10_96 rfl rfl ?_
    refine a_isub dX10_nursery_20 ?_
    exact a_iret dX10_nursery_21 rfl k
set_option maxRecDepth 100000 in
theorem w_X10_nursery_82 {G : dh_G} {h : dh_H} {Q : Option Value → dh_H → Prop} (k : dh_C G mX10_bring [.ref 64, .int (nI 0), .ref 66, .int (nI 0), .int (nI 24)] h (fun v h1 => dh_J G mX10_nursery 97 [some (.ref 61), none, none] (v.toList ++ []) h1 Q)) : dh_J G mX10_nursery 82 [some (.ref 61), none, none] [] h Q := by
  refine a_aload_n dX10_nursery_82 rfl ?_
  refine a_getR dX10_nursery_83 fF_RX10_20 rfl rfl ?_
  refine a_iconst dX10_nursery_86 (v := nI 0) (by decide) ?_
  refine a_aload_n dX10_nursery_87 rfl ?_
  refine a_getR dX10_nursery_88 fF_RX10_26 rfl rfl ?_
  refine a_iconst dX10_nursery_91 (v := nI 0) (by decide) ?_
  refine a_bipush dX10_nursery_92 (v := nI 24) (by decide) ?_
  exact a_callS5 dX10_nursery_94 (dh_Y_up cY_RX10_157 (by decide)) (Nat.le_of_ble_eq_true rfl) k
set_option maxRecDepth 100000 in
theorem w_X10_nursery_97 {G : dh_G} {h : dh_H} {Q : Option Value → dh_H → Prop} (k : dh_J G mX10_nursery 99 [some (.ref 61), none, some (.int (nI 0))] [] h Q) : dh_J G mX10_nursery 97 [some (.ref 61), none, none] [] h Q := by
  refine a_iconst dX10_nursery_97 (v := nI 0) (by decide) ?_
  refine a_istore_n dX10_nursery_98 (by decide) rfl ?_
  exact k
set_option maxRecDepth 100000 in
theorem w_X10_nursery_99 {G : dh_G} {x2 : Int32} {h : dh_H} {Q : Option Value → dh_H → Prop} (k : (((nI 32) ≤ x2) → dh_J G mX10_nursery 120 [some (.ref 61), none, some (.int (nI 0))] [] h Q) ∧ ((¬ (nI 32) ≤ x2) → (vp_in x2 32) ∧ dh_J G mX10_nursery 99 [some (.ref 61), none, some (.int (x2 + (nI 1)))] [] (dh_s h 68 x2.toNatClampNeg (nI 0)) Q)) : dh_J G mX10_nursery 99 [some (.ref 61), none, some (.int (x2))] [] h Q := by
  refine a_iload_n dX10_nursery_99 rfl ?_
  refine a_bipush dX10_nursery_100 (v := nI 32) (by decide) ?_
  refine a_icmp_ge 118 dX10_nursery_102 (by decide) (fun c1 => ?_) (fun c1 => ?_)
  · replace k := k.1 c1
    refine a_iconst dX10_nursery_118 (v := nI 0) (by decide) ?_
    refine a_istore_n dX10_nursery_119 (by decide) rfl ?_
    exact k
  · replace k := k.2 c1
    refine a_aload_n dX10_nursery_105 rfl ?_
    refine a_getR dX10_nursery_106 fF_RX10_32 rfl rfl ?_
    refine a_iload_n dX10_nursery_109 rfl ?_
    refine a_iconst dX10_nursery_110 (v := nI 0) (by decide) ?_
    obtain ⟨e2, k⟩ := k
    refine a_iast dX10_nursery_111 rfl e2 ?_
    refine a_iinc dX10_nursery_112 (v := x2 + (nI 1)) rfl (by rfl) (by decide) rfl ?_
    refine a_goto 99 dX10_nursery_115 (by decide) ?_
    exact k
set_option maxRecDepth 100000 in
theorem w_X10_nursery_120 {G : dh_G} {x2 : Int32} {h : dh_H} {Q : Option Value → dh_H → Prop} (k : (((nI 6) ≤ x2) → dh_J G mX10_nursery 150 [some (.ref 61), none, some (.int (nI 0))] [] h Q) ∧ ((¬ (nI 6) ≤ x2) → (vp_in ((nI 1) + x2) 32) ∧ (vp_in x2 6) ∧ dh_J G mX10_nursery 120 [some (.ref 61), none, some (.int (x2 + (nI 1)))] [] (dh_s (dh_s h 68 ((nI 1) + x2).toNatClampNeg (-1 : Int32)) 67 x2.toNatClampNeg (-1 : Int32)) Q)) : dh_J G mX10_nursery 120 [some (.ref 61), none, some (.int (x2))] [] h Q := by
  refine a_iload_n dX10_nursery_120 rfl ?_
  refine a_bipush dX10_nursery_121 (v := nI 6) (by decide) ?_
  refine a_icmp_ge 148 dX10_nursery_123 (by decide) (fun c1 => ?_) (fun c1 => ?_)
  · replace k := k.1 c1
    refine a_iconst dX10_nursery_148 (v := nI 0) (by decide) ?_
    refine a_istore_n dX10_nursery_149 (by decide) rfl ?_
    exact k
  · replace k := k.2 c1
    refine a_aload_n dX10_nursery_126 rfl ?_
    refine a_getR dX10_nursery_127 fF_RX10_32 rfl rfl ?_
    refine a_iconst dX10_nursery_130 (v := nI 1) (by decide) ?_
    refine a_iload_n dX10_nursery_131 rfl ?_
    refine a_iadd dX10_nursery_132 ?_
    refine a_iconst dX10_nursery_133 (v := (-1 : Int32)) (by decide) ?_
    obtain ⟨e2, k⟩ := k
    refine a_iast dX10_nursery_134 rfl e2 ?_
    refine a_aload_n dX10_nursery_135 rfl ?_
    refine a_getR dX10_nursery_136 fF_RX10_29 rfl rfl ?_
    refine a_iload_n dX10_nursery_139 rfl ?_
    refine a_iconst dX10_nursery_140 (v := (-1 : Int32)) (by decide) ?_
    obtain ⟨e3, k⟩ := k
    refine a_iast dX10_nursery_141 rfl e3 ?_
    refine a_iinc dX10_nursery_142 (v := x2 + (nI 1)) rfl (by rfl) (by decide) rfl ?_
    refine a_goto 120 dX10_nursery_145 (by decide) ?_
    exact k
set_option maxRecDepth 100000 in
theorem w_X10_nursery_150 {G : dh_G} {x2 : Int32} {h : dh_H} {Q : Option Value → dh_H → Prop} (k : (((h 61 20) ≤ x2) → (vp_in (nI 0) 2) ∧ (vp_in (nI 1) 2) ∧ Q (some (.int (h 61 19))) (dh_s (dh_s (dh_s (dh_s (dh_s h 61 31 (nI 0)) 61 33 (nI 0)) 72 (nI 0).toNatClampNeg (vp_nar .boolean (nI 0))) 72 (nI 1).toNatClampNeg (vp_nar .boolean (nI 0))) 61 26 (nI 0))) ∧ ((¬ (h 61 20) ≤ x2) → (vp_in (((nI 4) * x2) + (nI 3)) 24) ∧ (((h 66 (((nI 4) * x2) + (nI 3)).toNatClampNeg) = (nI 9)) → dh_J G mX10_nursery 150 [some (.ref 61), none, some (.int (x2 + (nI 1)))] [] h Q) ∧ ((¬ (h 66 (((nI 4) * x2) + (nI 3)).toNatClampNeg) = (nI 9)) → (vp_in (((nI 4) * x2) + (nI 3)) 24) ∧ (vp_in (h 66 (((nI 4) * x2) + (nI 3)).toNatClampNeg) 6) ∧ dh_J G mX10_nursery 150 [some (.ref 61), none, some (.int (x2 + (nI 1)))] [] (dh_s h 67 (h 66 (((nI 4) * x2) + (nI 3)).toNatClampNeg).toNatClampNeg x2) Q))) : dh_J G mX10_nursery 150 [some (.ref 61), none, some (.int (x2))] [] h Q := by
  refine a_iload_n dX10_nursery_150 rfl ?_
  refine a_aload_n dX10_nursery_151 rfl ?_
  refine a_getI dX10_nursery_152 fF_RX10_73 rfl rfl ?_
  refine a_icmp_ge 195 dX10_nursery_155 (by decide) (fun c1 => ?_) (fun c1 => ?_)
  · replace k := k.1 c1
    refine a_aload_n dX10_nursery_195 rfl ?_
    refine a_iconst dX10_nursery_196 (v := nI 0) (by decide) ?_
    refine a_put dX10_nursery_197 fF_RX10_161 rfl rfl rfl rfl ?_
    refine a_aload_n dX10_nursery_200 rfl ?_
    refine a_iconst dX10_nursery_201 (v := nI 0) (by decide) ?_
    refine a_put dX10_nursery_202 fF_RX10_164 rfl rfl rfl rfl ?_
    refine a_aload_n dX10_nursery_205 rfl ?_
    refine a_getR dX10_nursery_206 fF_RX10_44 rfl rfl ?_
    refine a_iconst dX10_nursery_209 (v := nI 0) (by decide) ?_
    refine a_iconst dX10_nursery_210 (v := nI 0) (by decide) ?_
    obtain ⟨e2, k⟩ := k
    refine a_zast dX10_nursery_211 rfl e2 ?_
    refine a_aload_n dX10_nursery_212 rfl ?_
    refine a_getR dX10_nursery_213 fF_RX10_44 rfl rfl ?_
    refine a_iconst dX10_nursery_216 (v := nI 1) (by decide) ?_
    refine a_iconst dX10_nursery_217 (v := nI 0) (by decide) ?_
    obtain ⟨e3, k⟩ := k
    refine a_zast dX10_nursery_218 rfl e3 ?_
    refine a_aload_n dX10_nursery_219 rfl ?_
    refine a_iconst dX10_nursery_220 (v := nI 0) (by decide) ?_
    refine a_put dX10_nursery_221 fF_RX10_167 rfl rfl rfl rfl ?_
    refine a_aload_n dX10_nursery_224 rfl ?_
    refine a_getI dX10_nursery_225 fF_RX10_66 rfl rfl ?_
    exact a_iret dX10_nursery_228 rfl k
  · replace k := k.2 c1
    refine a_aload_n dX10_nursery_158 rfl ?_
    refine a_getR dX10_nursery_159 fF_RX10_26 rfl rfl ?_
    refine a_iconst dX10_nursery_162 (v := nI 4) (by decide) ?_
    refine a_iload_n dX10_nursery_163 rfl ?_
    refine a_imul dX10_nursery_164 ?_
    refine a_iconst dX10_nursery_165 (v := nI 3) (by decide) ?_
    refine a_iadd dX10_nursery_166 ?_
    obtain ⟨e4, k⟩ := k
    refine a_iald dX10_nursery_167 rfl e4 ?_
    refine a_bipush dX10_nursery_168 (v := nI 9) (by decide) ?_
    refine a_icmp_eq 189 dX10_nursery_170 (by decide) (fun c5 => ?_) (fun c5 => ?_)
    · replace k := k.1 c5
      refine a_iinc dX10_nursery_189 (v := x2 + (nI 1)) rfl (by rfl) (by decide) rfl ?_
      refine a_goto 150 dX10_nursery_192 (by decide) ?_
      exact k
    · replace k := k.2 c5
      refine a_aload_n dX10_nursery_173 rfl ?_
      refine a_getR dX10_nursery_174 fF_RX10_29 rfl rfl ?_
      refine a_aload_n dX10_nursery_177 rfl ?_
      refine a_getR dX10_nursery_178 fF_RX10_26 rfl rfl ?_
      refine a_iconst dX10_nursery_181 (v := nI 4) (by decide) ?_
      refine a_iload_n dX10_nursery_182 rfl ?_
      refine a_imul dX10_nursery_183 ?_
      refine a_iconst dX10_nursery_184 (v := nI 3) (by decide) ?_
      refine a_iadd dX10_nursery_185 ?_
      obtain ⟨e6, k⟩ := k
      refine a_iald dX10_nursery_186 rfl e6 ?_
      refine a_iload_n dX10_nursery_187 rfl ?_
      obtain ⟨e7, k⟩ := k
      refine a_iast dX10_nursery_188 rfl e7 ?_
      refine a_iinc dX10_nursery_189 (v := x2 + (nI 1)) rfl (by rfl) (by decide) rfl ?_
      refine a_goto 150 dX10_nursery_192 (by decide) ?_
      exact k
set_option maxRecDepth 100000 in
theorem w_X10_fault_0 {G : dh_G} {h : dh_H} {Q : Option Value → dh_H → Prop} (k : Q (some (.int (h 61 7))) h) : dh_J G mX10_fault 0 [some (.ref 61)] [] h Q := by
  refine a_aload_n dX10_fault_0 rfl ?_
  refine a_getI dX10_fault_1 fF_RX10_13 rfl rfl ?_
  exact a_iret dX10_fault_4 rfl k
theorem e_X10_fault {G : dh_G} {h : dh_H} {Q : Option Value → dh_H → Prop} (k : Q (some (.int (h 61 7))) h) : dh_C G mX10_fault [.ref 61] h Q := dh_C_of [some (.ref 61)] (by decide) (Nat.le_of_ble_eq_true rfl) rfl (w_X10_fault_0 k)
set_option maxRecDepth 100000 in
theorem w_X10_takesBy_0 {G : dh_G} {x1 x2 x3 : Int32} {h : dh_H} {Q : Option Value → dh_H → Prop} (k : (vp_in ((nI 2) * x1) 12) ∧ ((x2 = x3) → Q (some (.int (nI 1))) h) ∧ ((¬ x2 = x3) → ((¬ (h 65 ((nI 2) * x1).toNatClampNeg) = (nI 3)) → ((x3 = (-1 : Int32)) → Q (some (.int (nI 0))) h) ∧ ((¬ x3 = (-1 : Int32)) → ((¬ (h 65 ((nI 2) * x1).toNatClampNeg) = 0) → ((¬ (h 65 ((nI 2) * x1).toNatClampNeg) = (nI 1)) → (vp_in ((nI 4) * x2) 24) ∧ (vp_in ((nI 4) * x3) 24) ∧ ((¬ (h 66 ((nI 4) * x2).toNatClampNeg) = (h 66 ((nI 4) * x3).toNatClampNeg)) → Q (some (.int (nI 0))) h) ∧ (((h 66 ((nI 4) * x2).toNatClampNeg) = (h 66 ((nI 4) * x3).toNatClampNeg)) → Q (some (.int (nI 1))) h)) ∧ (((h 65 ((nI 2) * x1).toNatClampNeg) = (nI 1)) → (vp_in (((nI 4) * x2) + (nI 1)) 24) ∧ (vp_in (((nI 4) * x3) + (nI 1)) 24) ∧ ((¬ (h 66 (((nI 4) * x2) + (nI 1)).toNatClampNeg) = (h 66 (((nI 4) * x3) + (nI 1)).toNatClampNeg)) → Q (some (.int (nI 0))) h) ∧ (((h 66 (((nI 4) * x2) + (nI 1)).toNatClampNeg) = (h 66 (((nI 4) * x3) + (nI 1)).toNatClampNeg)) → Q (some (.int (nI 1))) h))) ∧ (((h 65 ((nI 2) * x1).toNatClampNeg) = 0) → Q (some (.int (nI 0))) h))) ∧ (((h 65 ((nI 2) * x1).toNatClampNeg) = (nI 3)) → Q (some (.int (nI 1))) h))) : dh_J G mX10_takesBy 0 [some (.ref 61), some (.int (x1)), some (.int (x2)), some (.int (x3)), none] [] h Q := by
  refine a_aload_n dX10_takesBy_0 rfl ?_
  refine a_getR dX10_takesBy_1 fF_RX10_23 rfl rfl ?_
  refine a_iconst dX10_takesBy_4 (v := nI 2) (by decide) ?_
  refine a_iload_n dX10_takesBy_5 rfl ?_
  refine a_imul dX10_takesBy_6 ?_
  obtain ⟨e1, k⟩ := k
  refine a_iald dX10_takesBy_7 rfl e1 ?_
  refine a_istore dX10_takesBy_8 (by decide) rfl ?_
  refine a_iload_n dX10_takesBy_10 rfl ?_
  refine a_iload_n dX10_takesBy_11 rfl ?_
  refine a_icmp_eq 21 dX10_takesBy_12 (by decide) (fun c2 => ?_) (fun c2 => ?_)
  · replace k := k.1 c2
    refine a_iconst dX10_takesBy_21 (v := nI 1) (by decide) ?_
    exact a_zret dX10_takesBy_22 rfl (by decide) k
  · replace k := k.2 c2
    refine a_iload dX10_takesBy_15 rfl ?_
    refine a_iconst dX10_takesBy_17 (v := nI 3) (by decide) ?_
    refine a_icmp_ne 23 dX10_takesBy_18 (by decide) (fun c3 => ?_) (fun c3 => ?_)
    · replace k := k.1 c3
      refine a_iload_n dX10_takesBy_23 rfl ?_
      refine a_iconst dX10_takesBy_24 (v := (-1 : Int32)) (by decide) ?_
      refine a_icmp_eq 33 dX10_takesBy_25 (by decide) (fun c4 => ?_) (fun c4 => ?_)
      · replace k := k.1 c4
        refine a_iconst dX10_takesBy_33 (v := nI 0) (by decide) ?_
        exact a_zret dX10_takesBy_34 rfl (by decide) k
      · replace k := k.2 c4
        refine a_iload dX10_takesBy_28 rfl ?_
        refine a_if_ne 35 dX10_takesBy_30 (by decide) (fun c5 => ?_) (fun c5 => ?_)
        · replace k := k.1 c5
          refine a_iload dX10_takesBy_35 rfl ?_
          refine a_iconst dX10_takesBy_37 (v := nI 1) (by decide) ?_
          refine a_icmp_ne 72 dX10_takesBy_38 (by decide) (fun c6 => ?_) (fun c6 => ?_)
          · replace k := k.1 c6
            refine a_aload_n dX10_takesBy_72 rfl ?_
            refine a_getR dX10_takesBy_73 fF_RX10_26 rfl rfl ?_
            refine a_iconst dX10_takesBy_76 (v := nI 4) (by decide) ?_
            refine a_iload_n dX10_takesBy_77 rfl ?_
            refine a_imul dX10_takesBy_78 ?_
            obtain ⟨e7, k⟩ := k
            refine a_iald dX10_takesBy_79 rfl e7 ?_
            refine a_aload_n dX10_takesBy_80 rfl ?_
            refine a_getR dX10_takesBy_81 fF_RX10_26 rfl rfl ?_
            refine a_iconst dX10_takesBy_84 (v := nI 4) (by decide) ?_
            refine a_iload_n dX10_takesBy_85 rfl ?_
            refine a_imul dX10_takesBy_86 ?_
            obtain ⟨e8, k⟩ := k
            refine a_iald dX10_takesBy_87 rfl e8 ?_
            refine a_icmp_ne 95 dX10_takesBy_88 (by decide) (fun c9 => ?_) (fun c9 => ?_)
            · replace k := k.1 c9
              refine a_iconst dX10_takesBy_95 (v := nI 0) (by decide) ?_
              exact a_zret dX10_takesBy_96 rfl (by decide) k
            · replace k := k.2 c9
              refine a_iconst dX10_takesBy_91 (v := nI 1) (by decide) ?_
              refine a_goto 96 dX10_takesBy_92 (by decide) ?_
              exact a_zret dX10_takesBy_96 rfl (by decide) k
          · replace k := k.2 c6
            refine a_aload_n dX10_takesBy_41 rfl ?_
            refine a_getR dX10_takesBy_42 fF_RX10_26 rfl rfl ?_
            refine a_iconst dX10_takesBy_45 (v := nI 4) (by decide) ?_
            refine a_iload_n dX10_takesBy_46 rfl ?_
            refine a_imul dX10_takesBy_47 ?_
            refine a_iconst dX10_takesBy_48 (v := nI 1) (by decide) ?_
            refine a_iadd dX10_takesBy_49 ?_
            obtain ⟨e10, k⟩ := k
            refine a_iald dX10_takesBy_50 rfl e10 ?_
            refine a_aload_n dX10_takesBy_51 rfl ?_
            refine a_getR dX10_takesBy_52 fF_RX10_26 rfl rfl ?_
            refine a_iconst dX10_takesBy_55 (v := nI 4) (by decide) ?_
            refine a_iload_n dX10_takesBy_56 rfl ?_
            refine a_imul dX10_takesBy_57 ?_
            refine a_iconst dX10_takesBy_58 (v := nI 1) (by decide) ?_
            refine a_iadd dX10_takesBy_59 ?_
            obtain ⟨e11, k⟩ := k
            refine a_iald dX10_takesBy_60 rfl e11 ?_
            refine a_icmp_ne 68 dX10_takesBy_61 (by decide) (fun c12 => ?_) (fun c12 => ?_)
            · replace k := k.1 c12
              refine a_iconst dX10_takesBy_68 (v := nI 0) (by decide) ?_
              refine a_goto 96 dX10_takesBy_69 (by decide) ?_
              exact a_zret dX10_takesBy_96 rfl (by decide) k
            · replace k := k.2 c12
              refine a_iconst dX10_takesBy_64 (v := nI 1) (by decide) ?_
              refine a_goto 96 dX10_takesBy_65 (by decide) ?_
              exact a_zret dX10_takesBy_96 rfl (by decide) k
        · replace k := k.2 c5
          refine a_iconst dX10_takesBy_33 (v := nI 0) (by decide) ?_
          exact a_zret dX10_takesBy_34 rfl (by decide) k
    · replace k := k.2 c3
      refine a_iconst dX10_takesBy_21 (v := nI 1) (by decide) ?_
      exact a_zret dX10_takesBy_22 rfl (by decide) k
theorem e_X10_takesBy {G : dh_G} {x1 x2 x3 : Int32} {h : dh_H} {Q : Option Value → dh_H → Prop} (k : (vp_in ((nI 2) * x1) 12) ∧ ((x2 = x3) → Q (some (.int (nI 1))) h) ∧ ((¬ x2 = x3) → ((¬ (h 65 ((nI 2) * x1).toNatClampNeg) = (nI 3)) → ((x3 = (-1 : Int32)) → Q (some (.int (nI 0))) h) ∧ ((¬ x3 = (-1 : Int32)) → ((¬ (h 65 ((nI 2) * x1).toNatClampNeg) = 0) → ((¬ (h 65 ((nI 2) * x1).toNatClampNeg) = (nI 1)) → (vp_in ((nI 4) * x2) 24) ∧ (vp_in ((nI 4) * x3) 24) ∧ ((¬ (h 66 ((nI 4) * x2).toNatClampNeg) = (h 66 ((nI 4) * x3).toNatClampNeg)) → Q (some (.int (nI 0))) h) ∧ (((h 66 ((nI 4) * x2).toNatClampNeg) = (h 66 ((nI 4) * x3).toNatClampNeg)) → Q (some (.int (nI 1))) h)) ∧ (((h 65 ((nI 2) * x1).toNatClampNeg) = (nI 1)) → (vp_in (((nI 4) * x2) + (nI 1)) 24) ∧ (vp_in (((nI 4) * x3) + (nI 1)) 24) ∧ ((¬ (h 66 (((nI 4) * x2) + (nI 1)).toNatClampNeg) = (h 66 (((nI 4) * x3) + (nI 1)).toNatClampNeg)) → Q (some (.int (nI 0))) h) ∧ (((h 66 (((nI 4) * x2) + (nI 1)).toNatClampNeg) = (h 66 (((nI 4) * x3) + (nI 1)).toNatClampNeg)) → Q (some (.int (nI 1))) h))) ∧ (((h 65 ((nI 2) * x1).toNatClampNeg) = 0) → Q (some (.int (nI 0))) h))) ∧ (((h 65 ((nI 2) * x1).toNatClampNeg) = (nI 3)) → Q (some (.int (nI 1))) h))) : dh_C G mX10_takesBy [.ref 61, .int (x1), .int (x2), .int (x3)] h Q := dh_C_of [some (.ref 61), some (.int (x1)), some (.int (x2)), some (.int (x3)), none] (by decide) (Nat.le_of_ble_eq_true rfl) rfl (w_X10_takesBy_0 k)
set_option maxRecDepth 100000 in
theorem w_X10_takes_0 {G : dh_G} {x1 x2 : Int32} {h : dh_H} {Q : Option Value → dh_H → Prop} (k : (vp_in x1 6) ∧ dh_C G mX10_takesBy [.ref 61, .int (x1), .int (x2), .int (h 67 x1.toNatClampNeg)] h (fun v h1 => dh_J G mX10_takes 12 [none, none, none] (v.toList ++ []) h1 Q)) : dh_J G mX10_takes 0 [some (.ref 61), some (.int (x1)), some (.int (x2))] [] h Q := by
  refine a_aload_n dX10_takes_0 rfl ?_
  refine a_iload_n dX10_takes_1 rfl ?_
  refine a_iload_n dX10_takes_2 rfl ?_
  refine a_aload_n dX10_takes_3 rfl ?_
  refine a_getR dX10_takes_4 fF_RX10_29 rfl rfl ?_
  refine a_iload_n dX10_takes_7 rfl ?_
  obtain ⟨e1, k⟩ := k
  refine a_iald dX10_takes_8 rfl e1 ?_
  refine dh_drop 0 ?_
  refine dh_drop 1 ?_
  refine dh_drop 2 ?_
  exact a_callV3 dX10_takes_9 (dh_Y_up cY_RX10_170 (by decide)) rfl rfl (Nat.le_of_ble_eq_true rfl) k
theorem e_X10_takes {G : dh_G} {x1 x2 : Int32} {h : dh_H} {Q : Option Value → dh_H → Prop} (k : (vp_in x1 6) ∧ dh_C G mX10_takesBy [.ref 61, .int (x1), .int (x2), .int (h 67 x1.toNatClampNeg)] h (fun v h1 => dh_J G mX10_takes 12 [none, none, none] (v.toList ++ []) h1 Q)) : dh_C G mX10_takes [.ref 61, .int (x1), .int (x2)] h Q := dh_C_of [some (.ref 61), some (.int (x1)), some (.int (x2))] (by decide) (Nat.le_of_ble_eq_true rfl) rfl (w_X10_takes_0 k)
set_option maxRecDepth 100000 in
theorem w_X10_takes_12 {G : dh_G} {s0 : Int32} {h : dh_H} {Q : Option Value → dh_H → Prop} (k : ((s0) = 0 ∨ (s0) = 1) ∧ Q (some (.int (s0))) h) : dh_J G mX10_takes 12 [none, none, none] [.int (s0)] h Q := by
  obtain ⟨e1, k⟩ := k
  exact a_zret dX10_takes_12 rfl (dh_b1 e1) k
set_option maxRecDepth 100000 in
theorem w_X10_isCalm_0 {G : dh_G} {x1 : Int32} {h : dh_H} {Q : Option Value → dh_H → Prop} (k : (vp_in ((nI 1) + x1) 32) ∧ (((h 68 ((nI 1) + x1).toNatClampNeg) = (-1 : Int32)) → Q (some (.int (nI 0))) h) ∧ ((¬ (h 68 ((nI 1) + x1).toNatClampNeg) = (-1 : Int32)) → (vp_in ((nI 1) + x1) 32) ∧ dh_C G mX10_takes [.ref 61, .int (x1), .int (h 68 ((nI 1) + x1).toNatClampNeg)] h (fun v h1 => dh_J G mX10_isCalm 25 [none, none] (v.toList ++ []) h1 Q))) : dh_J G mX10_isCalm 0 [some (.ref 61), some (.int (x1))] [] h Q := by
  refine a_aload_n dX10_isCalm_0 rfl ?_
  refine a_getR dX10_isCalm_1 fF_RX10_32 rfl rfl ?_
  refine a_iconst dX10_isCalm_4 (v := nI 1) (by decide) ?_
  refine a_iload_n dX10_isCalm_5 rfl ?_
  refine a_iadd dX10_isCalm_6 ?_
  obtain ⟨e1, k⟩ := k
  refine a_iald dX10_isCalm_7 rfl e1 ?_
  refine a_iconst dX10_isCalm_8 (v := (-1 : Int32)) (by decide) ?_
  refine a_icmp_eq 32 dX10_isCalm_9 (by decide) (fun c2 => ?_) (fun c2 => ?_)
  · replace k := k.1 c2
    refine a_iconst dX10_isCalm_32 (v := nI 0) (by decide) ?_
    exact a_zret dX10_isCalm_33 rfl (by decide) k
  · replace k := k.2 c2
    refine a_aload_n dX10_isCalm_12 rfl ?_
    refine a_iload_n dX10_isCalm_13 rfl ?_
    refine a_aload_n dX10_isCalm_14 rfl ?_
    refine a_getR dX10_isCalm_15 fF_RX10_32 rfl rfl ?_
    refine a_iconst dX10_isCalm_18 (v := nI 1) (by decide) ?_
    refine a_iload_n dX10_isCalm_19 rfl ?_
    refine a_iadd dX10_isCalm_20 ?_
    obtain ⟨e3, k⟩ := k
    refine a_iald dX10_isCalm_21 rfl e3 ?_
    refine dh_drop 0 ?_
    refine dh_drop 1 ?_
    exact a_callV2 dX10_isCalm_22 (dh_Y_up cY_RX10_173 (by decide)) rfl rfl (Nat.le_of_ble_eq_true rfl) k
theorem e_X10_isCalm {G : dh_G} {x1 : Int32} {h : dh_H} {Q : Option Value → dh_H → Prop} (k : (vp_in ((nI 1) + x1) 32) ∧ (((h 68 ((nI 1) + x1).toNatClampNeg) = (-1 : Int32)) → Q (some (.int (nI 0))) h) ∧ ((¬ (h 68 ((nI 1) + x1).toNatClampNeg) = (-1 : Int32)) → (vp_in ((nI 1) + x1) 32) ∧ dh_C G mX10_takes [.ref 61, .int (x1), .int (h 68 ((nI 1) + x1).toNatClampNeg)] h (fun v h1 => dh_J G mX10_isCalm 25 [none, none] (v.toList ++ []) h1 Q))) : dh_C G mX10_isCalm [.ref 61, .int (x1)] h Q := dh_C_of [some (.ref 61), some (.int (x1))] (by decide) (Nat.le_of_ble_eq_true rfl) rfl (w_X10_isCalm_0 k)
set_option maxRecDepth 100000 in
theorem w_X10_isCalm_25 {G : dh_G} {s0 : Int32} {h : dh_H} {Q : Option Value → dh_H → Prop} (k : ((s0 = 0) → Q (some (.int (nI 0))) h) ∧ ((¬ s0 = 0) → Q (some (.int (nI 1))) h)) : dh_J G mX10_isCalm 25 [none, none] [.int (s0)] h Q := by
  refine a_if_eq 32 dX10_isCalm_25 (by decide) (fun c1 => ?_) (fun c1 => ?_)
  · replace k := k.1 c1
    refine a_iconst dX10_isCalm_32 (v := nI 0) (by decide) ?_
    exact a_zret dX10_isCalm_33 rfl (by decide) k
  · replace k := k.2 c1
    refine a_iconst dX10_isCalm_28 (v := nI 1) (by decide) ?_
    refine a_goto 33 dX10_isCalm_29 (by decide) ?_
    exact a_zret dX10_isCalm_33 rfl (by decide) k
set_option maxRecDepth 100000 in
theorem w_X10_calmOnes_0 {G : dh_G} {h : dh_H} {Q : Option Value → dh_H → Prop} (k : dh_J G mX10_calmOnes 4 [some (.ref 61), some (.int (nI 0)), some (.int (nI 0))] [] h Q) : dh_J G mX10_calmOnes 0 [some (.ref 61), none, none] [] h Q := by
  refine a_iconst dX10_calmOnes_0 (v := nI 0) (by decide) ?_
  refine a_istore_n dX10_calmOnes_1 (by decide) rfl ?_
  refine a_iconst dX10_calmOnes_2 (v := nI 0) (by decide) ?_
  refine a_istore_n dX10_calmOnes_3 (by decide) rfl ?_
  exact k
theorem e_X10_calmOnes {G : dh_G} {h : dh_H} {Q : Option Value → dh_H → Prop} (k : dh_J G mX10_calmOnes 4 [some (.ref 61), some (.int (nI 0)), some (.int (nI 0))] [] h Q) : dh_C G mX10_calmOnes [.ref 61] h Q := dh_C_of [some (.ref 61), none, none] (by decide) (Nat.le_of_ble_eq_true rfl) rfl (w_X10_calmOnes_0 k)
set_option maxRecDepth 100000 in
theorem w_X10_calmOnes_4 {G : dh_G} {x1 x2 : Int32} {h : dh_H} {Q : Option Value → dh_H → Prop} (k : (((h 61 19) ≤ x2) → Q (some (.int (x1))) h) ∧ ((¬ (h 61 19) ≤ x2) → dh_C G mX10_isCalm [.ref 61, .int (x2)] h (fun v h1 => dh_J G mX10_calmOnes 18 [some (.ref 61), none, some (.int (x2))] (v.toList ++ [.int (x1)]) h1 Q))) : dh_J G mX10_calmOnes 4 [some (.ref 61), some (.int (x1)), some (.int (x2))] [] h Q := by
  refine a_iload_n dX10_calmOnes_4 rfl ?_
  refine a_aload_n dX10_calmOnes_5 rfl ?_
  refine a_getI dX10_calmOnes_6 fF_RX10_66 rfl rfl ?_
  refine a_icmp_ge 36 dX10_calmOnes_9 (by decide) (fun c1 => ?_) (fun c1 => ?_)
  · replace k := k.1 c1
    refine a_iload_n dX10_calmOnes_36 rfl ?_
    exact a_iret dX10_calmOnes_37 rfl k
  · replace k := k.2 c1
    refine a_iload_n dX10_calmOnes_12 rfl ?_
    refine a_aload_n dX10_calmOnes_13 rfl ?_
    refine a_iload_n dX10_calmOnes_14 rfl ?_
    refine dh_drop 1 ?_
    exact a_callV1 dX10_calmOnes_15 (dh_Y_up cY_RX10_176 (by decide)) rfl rfl (Nat.le_of_ble_eq_true rfl) k
set_option maxRecDepth 100000 in
theorem w_X10_calmOnes_18 {G : dh_G} {x2 s0 s1 : Int32} {h : dh_H} {Q : Option Value → dh_H → Prop} (k : ((s1 = 0) → dh_J G mX10_calmOnes 4 [some (.ref 61), some (.int (s0 ||| (nI 0))), some (.int (x2 + (nI 1)))] [] h Q) ∧ ((¬ s1 = 0) → dh_J G mX10_calmOnes 4 [some (.ref 61), some (.int (s0 ||| ((nI 1) <<< (x2 &&& 31)))), some (.int (x2 + (nI 1)))] [] h Q)) : dh_J G mX10_calmOnes 18 [some (.ref 61), none, some (.int (x2))] [.int (s1), .int (s0)] h Q := by
  refine a_if_eq 27 dX10_calmOnes_18 (by decide) (fun c1 => ?_) (fun c1 => ?_)
  · replace k := k.1 c1
    refine a_iconst dX10_calmOnes_27 (v := nI 0) (by decide) ?_
    refine a_ior dX10_calmOnes_28 ?_
    refine a_istore_n dX10_calmOnes_29 (by decide) rfl ?_
    refine a_iinc dX10_calmOnes_30 (v := x2 + (nI 1)) rfl (by rfl) (by decide) rfl ?_
    refine a_goto 4 dX10_calmOnes_33 (by decide) ?_
    exact k
  · replace k := k.2 c1
    refine a_iconst dX10_calmOnes_21 (v := nI 1) (by decide) ?_
    refine a_iload_n dX10_calmOnes_22 rfl ?_
    refine a_ishl dX10_calmOnes_23 ?_
    refine a_goto 28 dX10_calmOnes_24 (by decide) ?_
    refine a_ior dX10_calmOnes_28 ?_
    refine a_istore_n dX10_calmOnes_29 (by decide) rfl ?_
    refine a_iinc dX10_calmOnes_30 (v := x2 + (nI 1)) rfl (by rfl) (by decide) rfl ?_
    refine a_goto 4 dX10_calmOnes_33 (by decide) ?_
    exact k
set_option maxRecDepth 100000 in
theorem w_X10_coldOnes_0 {G : dh_G} {h : dh_H} {Q : Option Value → dh_H → Prop} (k : dh_J G mX10_coldOnes 4 [some (.ref 61), some (.int (nI 0)), some (.int (nI 0))] [] h Q) : dh_J G mX10_coldOnes 0 [some (.ref 61), none, none] [] h Q := by
  refine a_iconst dX10_coldOnes_0 (v := nI 0) (by decide) ?_
  refine a_istore_n dX10_coldOnes_1 (by decide) rfl ?_
  refine a_iconst dX10_coldOnes_2 (v := nI 0) (by decide) ?_
  refine a_istore_n dX10_coldOnes_3 (by decide) rfl ?_
  exact k
theorem e_X10_coldOnes {G : dh_G} {h : dh_H} {Q : Option Value → dh_H → Prop} (k : dh_J G mX10_coldOnes 4 [some (.ref 61), some (.int (nI 0)), some (.int (nI 0))] [] h Q) : dh_C G mX10_coldOnes [.ref 61] h Q := dh_C_of [some (.ref 61), none, none] (by decide) (Nat.le_of_ble_eq_true rfl) rfl (w_X10_coldOnes_0 k)
set_option maxRecDepth 100000 in
theorem w_X10_coldOnes_4 {G : dh_G} {x1 x2 : Int32} {h : dh_H} {Q : Option Value → dh_H → Prop} (k : (((h 61 19) ≤ x2) → Q (some (.int (x1))) h) ∧ ((¬ (h 61 19) ≤ x2) → (vp_in ((nI 7) + x2) 32) ∧ (((h 68 ((nI 7) + x2).toNatClampNeg) ≤ 0) → dh_J G mX10_coldOnes 4 [some (.ref 61), some (.int (x1 ||| (nI 0))), some (.int (x2 + (nI 1)))] [] h Q) ∧ ((¬ (h 68 ((nI 7) + x2).toNatClampNeg) ≤ 0) → dh_J G mX10_coldOnes 4 [some (.ref 61), some (.int (x1 ||| ((nI 1) <<< (x2 &&& 31)))), some (.int (x2 + (nI 1)))] [] h Q))) : dh_J G mX10_coldOnes 4 [some (.ref 61), some (.int (x1)), some (.int (x2))] [] h Q := by
  refine a_iload_n dX10_coldOnes_4 rfl ?_
  refine a_aload_n dX10_coldOnes_5 rfl ?_
  refine a_getI dX10_coldOnes_6 fF_RX10_66 rfl rfl ?_
  refine a_icmp_ge 40 dX10_coldOnes_9 (by decide) (fun c1 => ?_) (fun c1 => ?_)
  · replace k := k.1 c1
    refine a_iload_n dX10_coldOnes_40 rfl ?_
    exact a_iret dX10_coldOnes_41 rfl k
  · replace k := k.2 c1
    refine a_iload_n dX10_coldOnes_12 rfl ?_
    refine a_aload_n dX10_coldOnes_13 rfl ?_
    refine a_getR dX10_coldOnes_14 fF_RX10_32 rfl rfl ?_
    refine a_bipush dX10_coldOnes_17 (v := nI 7) (by decide) ?_
    refine a_iload_n dX10_coldOnes_19 rfl ?_
    refine a_iadd dX10_coldOnes_20 ?_
    obtain ⟨e2, k⟩ := k
    refine a_iald dX10_coldOnes_21 rfl e2 ?_
    refine a_if_le 31 dX10_coldOnes_22 (by decide) (fun c3 => ?_) (fun c3 => ?_)
    · replace k := k.1 c3
      refine a_iconst dX10_coldOnes_31 (v := nI 0) (by decide) ?_
      refine a_ior dX10_coldOnes_32 ?_
      refine a_istore_n dX10_coldOnes_33 (by decide) rfl ?_
      refine a_iinc dX10_coldOnes_34 (v := x2 + (nI 1)) rfl (by rfl) (by decide) rfl ?_
      refine a_goto 4 dX10_coldOnes_37 (by decide) ?_
      exact k
    · replace k := k.2 c3
      refine a_iconst dX10_coldOnes_25 (v := nI 1) (by decide) ?_
      refine a_iload_n dX10_coldOnes_26 rfl ?_
      refine a_ishl dX10_coldOnes_27 ?_
      refine a_goto 32 dX10_coldOnes_28 (by decide) ?_
      refine a_ior dX10_coldOnes_32 ?_
      refine a_istore_n dX10_coldOnes_33 (by decide) rfl ?_
      refine a_iinc dX10_coldOnes_34 (v := x2 + (nI 1)) rfl (by rfl) (by decide) rfl ?_
      refine a_goto 4 dX10_coldOnes_37 (by decide) ?_
      exact k
set_option maxRecDepth 100000 in
theorem w_X10_holderOf_0 {G : dh_G} {x1 : Int32} {h : dh_H} {Q : Option Value → dh_H → Prop} (k : dh_J G mX10_holderOf 4 [some (.ref 61), some (.int (x1)), some (.int ((-1 : Int32))), some (.int (nI 0))] [] h Q) : dh_J G mX10_holderOf 0 [some (.ref 61), some (.int (x1)), none, none] [] h Q := by
  refine a_iconst dX10_holderOf_0 (v := (-1 : Int32)) (by decide) ?_
  refine a_istore_n dX10_holderOf_1 (by decide) rfl ?_
  refine a_iconst dX10_holderOf_2 (v := nI 0) (by decide) ?_
  refine a_istore_n dX10_holderOf_3 (by decide) rfl ?_
  exact k
theorem e_X10_holderOf {G : dh_G} {x1 : Int32} {h : dh_H} {Q : Option Value → dh_H → Prop} (k : dh_J G mX10_holderOf 4 [some (.ref 61), some (.int (x1)), some (.int ((-1 : Int32))), some (.int (nI 0))] [] h Q) : dh_C G mX10_holderOf [.ref 61, .int (x1)] h Q := dh_C_of [some (.ref 61), some (.int (x1)), none, none] (by decide) (Nat.le_of_ble_eq_true rfl) rfl (w_X10_holderOf_0 k)
set_option maxRecDepth 100000 in
theorem w_X10_holderOf_4 {G : dh_G} {x1 x2 x3 : Int32} {h : dh_H} {Q : Option Value → dh_H → Prop} (k : (((h 61 19) ≤ x3) → Q (some (.int (x2))) h) ∧ ((¬ (h 61 19) ≤ x3) → (vp_in ((nI 1) + x3) 32) ∧ ((¬ (h 68 ((nI 1) + x3).toNatClampNeg) = x1) → dh_J G mX10_holderOf 4 [some (.ref 61), some (.int (x1)), some (.int (x2)), some (.int (x3 + (nI 1)))] [] h Q) ∧ (((h 68 ((nI 1) + x3).toNatClampNeg) = x1) → dh_J G mX10_holderOf 4 [some (.ref 61), some (.int (x1)), some (.int (x3)), some (.int (x3 + (nI 1)))] [] h Q))) : dh_J G mX10_holderOf 4 [some (.ref 61), some (.int (x1)), some (.int (x2)), some (.int (x3))] [] h Q := by
  refine a_iload_n dX10_holderOf_4 rfl ?_
  refine a_aload_n dX10_holderOf_5 rfl ?_
  refine a_getI dX10_holderOf_6 fF_RX10_66 rfl rfl ?_
  refine a_icmp_ge 36 dX10_holderOf_9 (by decide) (fun c1 => ?_) (fun c1 => ?_)
  · replace k := k.1 c1
    refine a_iload_n dX10_holderOf_36 rfl ?_
    exact a_iret dX10_holderOf_37 rfl k
  · replace k := k.2 c1
    refine a_aload_n dX10_holderOf_12 rfl ?_
    refine a_getR dX10_holderOf_13 fF_RX10_32 rfl rfl ?_
    refine a_iconst dX10_holderOf_16 (v := nI 1) (by decide) ?_
    refine a_iload_n dX10_holderOf_17 rfl ?_
    refine a_iadd dX10_holderOf_18 ?_
    obtain ⟨e2, k⟩ := k
    refine a_iald dX10_holderOf_19 rfl e2 ?_
    refine a_iload_n dX10_holderOf_20 rfl ?_
    refine a_icmp_ne 28 dX10_holderOf_21 (by decide) (fun c3 => ?_) (fun c3 => ?_)
    · replace k := k.1 c3
      refine a_iload_n dX10_holderOf_28 rfl ?_
      refine a_istore_n dX10_holderOf_29 (by decide) rfl ?_
      refine a_iinc dX10_holderOf_30 (v := x3 + (nI 1)) rfl (by rfl) (by decide) rfl ?_
      refine a_goto 4 dX10_holderOf_33 (by decide) ?_
      exact k
    · replace k := k.2 c3
      refine a_iload_n dX10_holderOf_24 rfl ?_
      refine a_goto 29 dX10_holderOf_25 (by decide) ?_
      refine a_istore_n dX10_holderOf_29 (by decide) rfl ?_
      refine a_iinc dX10_holderOf_30 (v := x3 + (nI 1)) rfl (by rfl) (by decide) rfl ?_
      refine a_goto 4 dX10_holderOf_33 (by decide) ?_
      exact k
set_option maxRecDepth 100000 in
theorem w_X10_readOnes_0 {G : dh_G} {h : dh_H} {Q : Option Value → dh_H → Prop} (k : dh_J G mX10_readOnes 4 [some (.ref 61), some (.int (nI 0)), some (.int (nI 0))] [] h Q) : dh_J G mX10_readOnes 0 [some (.ref 61), none, none] [] h Q := by
  refine a_iconst dX10_readOnes_0 (v := nI 0) (by decide) ?_
  refine a_istore_n dX10_readOnes_1 (by decide) rfl ?_
  refine a_iconst dX10_readOnes_2 (v := nI 0) (by decide) ?_
  refine a_istore_n dX10_readOnes_3 (by decide) rfl ?_
  exact k
theorem e_X10_readOnes {G : dh_G} {h : dh_H} {Q : Option Value → dh_H → Prop} (k : dh_J G mX10_readOnes 4 [some (.ref 61), some (.int (nI 0)), some (.int (nI 0))] [] h Q) : dh_C G mX10_readOnes [.ref 61] h Q := dh_C_of [some (.ref 61), none, none] (by decide) (Nat.le_of_ble_eq_true rfl) rfl (w_X10_readOnes_0 k)
set_option maxRecDepth 100000 in
theorem w_X10_readOnes_4 {G : dh_G} {x1 x2 : Int32} {h : dh_H} {Q : Option Value → dh_H → Prop} (k : (((h 61 20) ≤ x2) → Q (some (.int (x1))) h) ∧ ((¬ (h 61 20) ≤ x2) → (vp_in ((nI 20) + x2) 32) ∧ (vp_in (((nI 4) * x2) + (nI 2)) 24) ∧ (((h 66 (((nI 4) * x2) + (nI 2)).toNatClampNeg) ≤ (h 68 ((nI 20) + x2).toNatClampNeg)) → dh_J G mX10_readOnes 4 [some (.ref 61), some (.int (x1 ||| (nI 0))), some (.int (x2 + (nI 1)))] [] h Q) ∧ ((¬ (h 66 (((nI 4) * x2) + (nI 2)).toNatClampNeg) ≤ (h 68 ((nI 20) + x2).toNatClampNeg)) → dh_J G mX10_readOnes 4 [some (.ref 61), some (.int (x1 ||| ((nI 1) <<< (x2 &&& 31)))), some (.int (x2 + (nI 1)))] [] h Q))) : dh_J G mX10_readOnes 4 [some (.ref 61), some (.int (x1)), some (.int (x2))] [] h Q := by
  refine a_iload_n dX10_readOnes_4 rfl ?_
  refine a_aload_n dX10_readOnes_5 rfl ?_
  refine a_getI dX10_readOnes_6 fF_RX10_73 rfl rfl ?_
  refine a_icmp_ge 50 dX10_readOnes_9 (by decide) (fun c1 => ?_) (fun c1 => ?_)
  · replace k := k.1 c1
    refine a_iload_n dX10_readOnes_50 rfl ?_
    exact a_iret dX10_readOnes_51 rfl k
  · replace k := k.2 c1
    refine a_iload_n dX10_readOnes_12 rfl ?_
    refine a_aload_n dX10_readOnes_13 rfl ?_
    refine a_getR dX10_readOnes_14 fF_RX10_32 rfl rfl ?_
    refine a_bipush dX10_readOnes_17 (v := nI 20) (by decide) ?_
    refine a_iload_n dX10_readOnes_19 rfl ?_
    refine a_iadd dX10_readOnes_20 ?_
    obtain ⟨e2, k⟩ := k
    refine a_iald dX10_readOnes_21 rfl e2 ?_
    refine a_aload_n dX10_readOnes_22 rfl ?_
    refine a_getR dX10_readOnes_23 fF_RX10_26 rfl rfl ?_
    refine a_iconst dX10_readOnes_26 (v := nI 4) (by decide) ?_
    refine a_iload_n dX10_readOnes_27 rfl ?_
    refine a_imul dX10_readOnes_28 ?_
    refine a_iconst dX10_readOnes_29 (v := nI 2) (by decide) ?_
    refine a_iadd dX10_readOnes_30 ?_
    obtain ⟨e3, k⟩ := k
    refine a_iald dX10_readOnes_31 rfl e3 ?_
    refine a_icmp_ge 41 dX10_readOnes_32 (by decide) (fun c4 => ?_) (fun c4 => ?_)
    · replace k := k.1 c4
      refine a_iconst dX10_readOnes_41 (v := nI 0) (by decide) ?_
      refine a_ior dX10_readOnes_42 ?_
      refine a_istore_n dX10_readOnes_43 (by decide) rfl ?_
      refine a_iinc dX10_readOnes_44 (v := x2 + (nI 1)) rfl (by rfl) (by decide) rfl ?_
      refine a_goto 4 dX10_readOnes_47 (by decide) ?_
      exact k
    · replace k := k.2 c4
      refine a_iconst dX10_readOnes_35 (v := nI 1) (by decide) ?_
      refine a_iload_n dX10_readOnes_36 rfl ?_
      refine a_ishl dX10_readOnes_37 ?_
      refine a_goto 42 dX10_readOnes_38 (by decide) ?_
      refine a_ior dX10_readOnes_42 ?_
      refine a_istore_n dX10_readOnes_43 (by decide) rfl ?_
      refine a_iinc dX10_readOnes_44 (v := x2 + (nI 1)) rfl (by rfl) (by decide) rfl ?_
      refine a_goto 4 dX10_readOnes_47 (by decide) ?_
      exact k
set_option maxRecDepth 100000 in
theorem w_X10_told_0 {G : dh_G} {x1 : Int32} {h : dh_H} {Q : Option Value → dh_H → Prop} (k : ((x1).toInt < 0 ∨ 12 < (x1).toInt → Q (some (.int ((-1000000002 : Int32)))) h) ∧ (x1 = nI 0 → Q (some (.int (h 61 17))) h) ∧ (x1 = nI 1 → Q (some (.int (h 61 18))) h) ∧ (x1 = nI 2 → Q (some (.int (h 61 19))) h) ∧ (x1 = nI 3 → Q (some (.int (h 61 20))) h) ∧ (x1 = nI 4 → Q (some (.int (h 61 0))) h) ∧ (x1 = nI 5 → Q (some (.int (h 68 0))) h) ∧ (x1 = nI 6 → dh_C G mX10_calmOnes [.ref 61] h (fun v h1 => dh_J G mX10_told 104 [none, none] (v.toList ++ []) h1 Q)) ∧ (x1 = nI 7 → dh_C G mX10_coldOnes [.ref 61] h (fun v h1 => dh_J G mX10_told 109 [none, none] (v.toList ++ []) h1 Q)) ∧ (x1 = nI 8 → Q (some (.int (h 68 19))) h) ∧ (x1 = nI 9 → dh_C G mX10_readOnes [.ref 61] h (fun v h1 => dh_J G mX10_told 122 [none, none] (v.toList ++ []) h1 Q)) ∧ (x1 = nI 10 → Q (some (.int (h 61 31))) h) ∧ (x1 = nI 11 → Q (some (.int (h 61 33))) h) ∧ (x1 = nI 12 → Q (some (.int (h 61 26))) h)) : dh_J G mX10_told 0 [some (.ref 61), some (.int (x1))] [] h Q := by
  refine a_iload_n dX10_told_0 rfl ?_
  by_cases hx : (x1).toInt < 0 ∨ 12 < (x1).toInt
  · replace k := k.1 hx
    refine a_tableOut 138 dX10_told_1 hx (by decide) ?_
    refine a_ldc dX10_told_138 (v := (-1000000002 : Int32)) kK_RX10_76 ?_
    exact a_iret dX10_told_140 rfl k
  · obtain ⟨j, hj, e⟩ := dh_tab (n := 12) (by decide) hx
    match j, hj, e with
    | 0, _, e =>
      replace k := k.2.1 e
      subst e
      refine a_tableIn (off := 67) 68 dX10_told_1 (fun q => hx (Or.inl q)) (fun q => hx (Or.inr q)) (by decide +kernel) (by decide) ?_
      refine a_aload_n dX10_told_68 rfl ?_
      refine a_getI dX10_told_69 fF_RX10_151 rfl rfl ?_
      exact a_iret dX10_told_72 rfl k
    | 1, _, e =>
      replace k := k.2.2.1 e
      subst e
      refine a_tableIn (off := 72) 73 dX10_told_1 (fun q => hx (Or.inl q)) (fun q => hx (Or.inr q)) (by decide +kernel) (by decide) ?_
      refine a_aload_n dX10_told_73 rfl ?_
      refine a_getI dX10_told_74 fF_RX10_154 rfl rfl ?_
      exact a_iret dX10_told_77 rfl k
    | 2, _, e =>
      replace k := k.2.2.2.1 e
      subst e
      refine a_tableIn (off := 77) 78 dX10_told_1 (fun q => hx (Or.inl q)) (fun q => hx (Or.inr q)) (by decide +kernel) (by decide) ?_
      refine a_aload_n dX10_told_78 rfl ?_
      refine a_getI dX10_told_79 fF_RX10_66 rfl rfl ?_
      exact a_iret dX10_told_82 rfl k
    | 3, _, e =>
      replace k := k.2.2.2.2.1 e
      subst e
      refine a_tableIn (off := 82) 83 dX10_told_1 (fun q => hx (Or.inl q)) (fun q => hx (Or.inr q)) (by decide +kernel) (by decide) ?_
      refine a_aload_n dX10_told_83 rfl ?_
      refine a_getI dX10_told_84 fF_RX10_73 rfl rfl ?_
      exact a_iret dX10_told_87 rfl k
    | 4, _, e =>
      replace k := k.2.2.2.2.2.1 e
      subst e
      refine a_tableIn (off := 87) 88 dX10_told_1 (fun q => hx (Or.inl q)) (fun q => hx (Or.inr q)) (by decide +kernel) (by decide) ?_
      refine a_aload_n dX10_told_88 rfl ?_
      refine a_getI dX10_told_89 fF_RX10_77 rfl rfl ?_
      exact a_iret dX10_told_92 rfl k
    | 5, _, e =>
      replace k := k.2.2.2.2.2.2.1 e
      subst e
      refine a_tableIn (off := 92) 93 dX10_told_1 (fun q => hx (Or.inl q)) (fun q => hx (Or.inr q)) (by decide +kernel) (by decide) ?_
      refine a_aload_n dX10_told_93 rfl ?_
      refine a_getR dX10_told_94 fF_RX10_32 rfl rfl ?_
      refine a_iconst dX10_told_97 (v := nI 0) (by decide) ?_
      refine a_ialdN dX10_told_98 rfl (j := 0) rfl (by decide) (by decide) ?_
      exact a_iret dX10_told_99 rfl k
    | 6, _, e =>
      replace k := k.2.2.2.2.2.2.2.1 e
      subst e
      refine a_tableIn (off := 99) 100 dX10_told_1 (fun q => hx (Or.inl q)) (fun q => hx (Or.inr q)) (by decide +kernel) (by decide) ?_
      refine a_aload_n dX10_told_100 rfl ?_
      refine dh_drop 0 ?_
      refine dh_drop 1 ?_
      exact a_callV0 dX10_told_101 (dh_Y_up cY_RX10_179 (by decide)) rfl rfl (Nat.le_of_ble_eq_true rfl) k
    | 7, _, e =>
      replace k := k.2.2.2.2.2.2.2.2.1 e
      subst e
      refine a_tableIn (off := 104) 105 dX10_told_1 (fun q => hx (Or.inl q)) (fun q => hx (Or.inr q)) (by decide +kernel) (by decide) ?_
      refine a_aload_n dX10_told_105 rfl ?_
      refine dh_drop 0 ?_
      refine dh_drop 1 ?_
      exact a_callV0 dX10_told_106 (dh_Y_up cY_RX10_183 (by decide)) rfl rfl (Nat.le_of_ble_eq_true rfl) k
    | 8, _, e =>
      replace k := k.2.2.2.2.2.2.2.2.2.1 e
      subst e
      refine a_tableIn (off := 109) 110 dX10_told_1 (fun q => hx (Or.inl q)) (fun q => hx (Or.inr q)) (by decide +kernel) (by decide) ?_
      refine a_aload_n dX10_told_110 rfl ?_
      refine a_getR dX10_told_111 fF_RX10_32 rfl rfl ?_
      refine a_bipush dX10_told_114 (v := nI 19) (by decide) ?_
      refine a_ialdN dX10_told_116 rfl (j := 19) rfl (by decide) (by decide) ?_
      exact a_iret dX10_told_117 rfl k
    | 9, _, e =>
      replace k := k.2.2.2.2.2.2.2.2.2.2.1 e
      subst e
      refine a_tableIn (off := 117) 118 dX10_told_1 (fun q => hx (Or.inl q)) (fun q => hx (Or.inr q)) (by decide +kernel) (by decide) ?_
      refine a_aload_n dX10_told_118 rfl ?_
      refine dh_drop 0 ?_
      refine dh_drop 1 ?_
      exact a_callV0 dX10_told_119 (dh_Y_up cY_RX10_186 (by decide)) rfl rfl (Nat.le_of_ble_eq_true rfl) k
    | 10, _, e =>
      replace k := k.2.2.2.2.2.2.2.2.2.2.2.1 e
      subst e
      refine a_tableIn (off := 122) 123 dX10_told_1 (fun q => hx (Or.inl q)) (fun q => hx (Or.inr q)) (by decide +kernel) (by decide) ?_
      refine a_aload_n dX10_told_123 rfl ?_
      refine a_getI dX10_told_124 fF_RX10_161 rfl rfl ?_
      exact a_iret dX10_told_127 rfl k
    | 11, _, e =>
      replace k := k.2.2.2.2.2.2.2.2.2.2.2.2.1 e
      subst e
      refine a_tableIn (off := 127) 128 dX10_told_1 (fun q => hx (Or.inl q)) (fun q => hx (Or.inr q)) (by decide +kernel) (by decide) ?_
      refine a_aload_n dX10_told_128 rfl ?_
      refine a_getI dX10_told_129 fF_RX10_164 rfl rfl ?_
      exact a_iret dX10_told_132 rfl k
    | 12, _, e =>
      replace k := k.2.2.2.2.2.2.2.2.2.2.2.2.2 e
      subst e
      refine a_tableIn (off := 132) 133 dX10_told_1 (fun q => hx (Or.inl q)) (fun q => hx (Or.inr q)) (by decide +kernel) (by decide) ?_
      refine a_aload_n dX10_told_133 rfl ?_
      refine a_getI dX10_told_134 fF_RX10_167 rfl rfl ?_
      exact a_iret dX10_told_137 rfl k
    | j + 13, hj, _ => exact absurd hj (by omega)
theorem e_X10_told {G : dh_G} {x1 : Int32} {h : dh_H} {Q : Option Value → dh_H → Prop} (k : ((x1).toInt < 0 ∨ 12 < (x1).toInt → Q (some (.int ((-1000000002 : Int32)))) h) ∧ (x1 = nI 0 → Q (some (.int (h 61 17))) h) ∧ (x1 = nI 1 → Q (some (.int (h 61 18))) h) ∧ (x1 = nI 2 → Q (some (.int (h 61 19))) h) ∧ (x1 = nI 3 → Q (some (.int (h 61 20))) h) ∧ (x1 = nI 4 → Q (some (.int (h 61 0))) h) ∧ (x1 = nI 5 → Q (some (.int (h 68 0))) h) ∧ (x1 = nI 6 → dh_C G mX10_calmOnes [.ref 61] h (fun v h1 => dh_J G mX10_told 104 [none, none] (v.toList ++ []) h1 Q)) ∧ (x1 = nI 7 → dh_C G mX10_coldOnes [.ref 61] h (fun v h1 => dh_J G mX10_told 109 [none, none] (v.toList ++ []) h1 Q)) ∧ (x1 = nI 8 → Q (some (.int (h 68 19))) h) ∧ (x1 = nI 9 → dh_C G mX10_readOnes [.ref 61] h (fun v h1 => dh_J G mX10_told 122 [none, none] (v.toList ++ []) h1 Q)) ∧ (x1 = nI 10 → Q (some (.int (h 61 31))) h) ∧ (x1 = nI 11 → Q (some (.int (h 61 33))) h) ∧ (x1 = nI 12 → Q (some (.int (h 61 26))) h)) : dh_C G mX10_told [.ref 61, .int (x1)] h Q := dh_C_of [some (.ref 61), some (.int (x1))] (by decide) (Nat.le_of_ble_eq_true rfl) rfl (w_X10_told_0 k)
set_option maxRecDepth 100000 in
theorem w_X10_told_104 {G : dh_G} {s0 : Int32} {h : dh_H} {Q : Option Value → dh_H → Prop} (k : Q (some (.int (s0))) h) : dh_J G mX10_told 104 [none, none] [.int (s0)] h Q := by
  exact a_iret dX10_told_104 rfl k
set_option maxRecDepth 100000 in
theorem w_X10_told_109 {G : dh_G} {s0 : Int32} {h : dh_H} {Q : Option Value → dh_H → Prop} (k : Q (some (.int (s0))) h) : dh_J G mX10_told 109 [none, none] [.int (s0)] h Q := by
  exact a_iret dX10_told_109 rfl k
set_option maxRecDepth 100000 in
theorem w_X10_told_122 {G : dh_G} {s0 : Int32} {h : dh_H} {Q : Option Value → dh_H → Prop} (k : Q (some (.int (s0))) h) : dh_J G mX10_told 122 [none, none] [.int (s0)] h Q := by
  exact a_iret dX10_told_122 rfl k
set_option maxRecDepth 100000 in
theorem w_X10_child_0 {G : dh_G} {x1 x2 : Int32} {h : dh_H} {Q : Option Value → dh_H → Prop} (k : dh_C G mX10_isChild [.ref 61, .int (x1)] h (fun v h1 => dh_J G mX10_child 5 [some (.ref 61), some (.int (x1)), some (.int (x2))] (v.toList ++ []) h1 Q)) : dh_J G mX10_child 0 [some (.ref 61), some (.int (x1)), some (.int (x2))] [] h Q := by
  refine a_aload_n dX10_child_0 rfl ?_
  refine a_iload_n dX10_child_1 rfl ?_
  exact a_callV1 dX10_child_2 (dh_Y_up cY_RX10_189 (by decide)) rfl rfl (Nat.le_of_ble_eq_true rfl) k
theorem e_X10_child {G : dh_G} {x1 x2 : Int32} {h : dh_H} {Q : Option Value → dh_H → Prop} (k : dh_C G mX10_isChild [.ref 61, .int (x1)] h (fun v h1 => dh_J G mX10_child 5 [some (.ref 61), some (.int (x1)), some (.int (x2))] (v.toList ++ []) h1 Q)) : dh_C G mX10_child [.ref 61, .int (x1), .int (x2)] h Q := dh_C_of [some (.ref 61), some (.int (x1)), some (.int (x2))] (by decide) (Nat.le_of_ble_eq_true rfl) rfl (w_X10_child_0 k)
set_option maxRecDepth 100000 in
theorem w_X10_child_5 {G : dh_G} {x1 x2 s0 : Int32} {h : dh_H} {Q : Option Value → dh_H → Prop} (k : ((¬ s0 = 0) → ((x2).toInt < 0 ∨ 5 < (x2).toInt → Q (some (.int ((-1000000002 : Int32)))) h) ∧ (x2 = nI 0 → (vp_in ((nI 2) * x1) 12) ∧ Q (some (.int (h 65 ((nI 2) * x1).toNatClampNeg))) h) ∧ (x2 = nI 1 → (vp_in (((nI 2) * x1) + (nI 1)) 12) ∧ Q (some (.int (h 65 (((nI 2) * x1) + (nI 1)).toNatClampNeg))) h) ∧ (x2 = nI 2 → (vp_in ((nI 1) + x1) 32) ∧ Q (some (.int (h 68 ((nI 1) + x1).toNatClampNeg))) h) ∧ (x2 = nI 3 → (vp_in x1 6) ∧ Q (some (.int (h 67 x1.toNatClampNeg))) h) ∧ (x2 = nI 4 → (vp_in ((nI 7) + x1) 32) ∧ Q (some (.int (h 68 ((nI 7) + x1).toNatClampNeg))) h) ∧ (x2 = nI 5 → (vp_in ((nI 13) + x1) 32) ∧ Q (some (.int (h 68 ((nI 13) + x1).toNatClampNeg))) h)) ∧ ((s0 = 0) → Q (some (.int ((-1000000001 : Int32)))) h)) : dh_J G mX10_child 5 [some (.ref 61), some (.int (x1)), some (.int (x2))] [.int (s0)] h Q := by
  refine a_if_ne 11 dX10_child_5 (by decide) (fun c1 => ?_) (fun c1 => ?_)
  · replace k := k.1 c1
    refine a_iload_n dX10_child_11 rfl ?_
    by_cases hx : (x2).toInt < 0 ∨ 5 < (x2).toInt
    · replace k := k.1 hx
      refine a_tableOut 108 dX10_child_12 hx (by decide) ?_
      refine a_ldc dX10_child_108 (v := (-1000000002 : Int32)) kK_RX10_76 ?_
      exact a_iret dX10_child_110 rfl k
    · obtain ⟨j, hj, e⟩ := dh_tab (n := 5) (by decide) hx
      match j, hj, e with
      | 0, _, e =>
        replace k := k.2.1 e
        subst e
        refine a_tableIn (off := 40) 52 dX10_child_12 (fun q => hx (Or.inl q)) (fun q => hx (Or.inr q)) (by decide +kernel) (by decide) ?_
        refine a_aload_n dX10_child_52 rfl ?_
        refine a_getR dX10_child_53 fF_RX10_23 rfl rfl ?_
        refine a_iconst dX10_child_56 (v := nI 2) (by decide) ?_
        refine a_iload_n dX10_child_57 rfl ?_
        refine a_imul dX10_child_58 ?_
        obtain ⟨e2, k⟩ := k
        refine a_iald dX10_child_59 rfl e2 ?_
        exact a_iret dX10_child_60 rfl k
      | 1, _, e =>
        replace k := k.2.2.1 e
        subst e
        refine a_tableIn (off := 49) 61 dX10_child_12 (fun q => hx (Or.inl q)) (fun q => hx (Or.inr q)) (by decide +kernel) (by decide) ?_
        refine a_aload_n dX10_child_61 rfl ?_
        refine a_getR dX10_child_62 fF_RX10_23 rfl rfl ?_
        refine a_iconst dX10_child_65 (v := nI 2) (by decide) ?_
        refine a_iload_n dX10_child_66 rfl ?_
        refine a_imul dX10_child_67 ?_
        refine a_iconst dX10_child_68 (v := nI 1) (by decide) ?_
        refine a_iadd dX10_child_69 ?_
        obtain ⟨e3, k⟩ := k
        refine a_iald dX10_child_70 rfl e3 ?_
        exact a_iret dX10_child_71 rfl k
      | 2, _, e =>
        replace k := k.2.2.2.1 e
        subst e
        refine a_tableIn (off := 60) 72 dX10_child_12 (fun q => hx (Or.inl q)) (fun q => hx (Or.inr q)) (by decide +kernel) (by decide) ?_
        refine a_aload_n dX10_child_72 rfl ?_
        refine a_getR dX10_child_73 fF_RX10_32 rfl rfl ?_
        refine a_iconst dX10_child_76 (v := nI 1) (by decide) ?_
        refine a_iload_n dX10_child_77 rfl ?_
        refine a_iadd dX10_child_78 ?_
        obtain ⟨e4, k⟩ := k
        refine a_iald dX10_child_79 rfl e4 ?_
        exact a_iret dX10_child_80 rfl k
      | 3, _, e =>
        replace k := k.2.2.2.2.1 e
        subst e
        refine a_tableIn (off := 69) 81 dX10_child_12 (fun q => hx (Or.inl q)) (fun q => hx (Or.inr q)) (by decide +kernel) (by decide) ?_
        refine a_aload_n dX10_child_81 rfl ?_
        refine a_getR dX10_child_82 fF_RX10_29 rfl rfl ?_
        refine a_iload_n dX10_child_85 rfl ?_
        obtain ⟨e5, k⟩ := k
        refine a_iald dX10_child_86 rfl e5 ?_
        exact a_iret dX10_child_87 rfl k
      | 4, _, e =>
        replace k := k.2.2.2.2.2.1 e
        subst e
        refine a_tableIn (off := 76) 88 dX10_child_12 (fun q => hx (Or.inl q)) (fun q => hx (Or.inr q)) (by decide +kernel) (by decide) ?_
        refine a_aload_n dX10_child_88 rfl ?_
        refine a_getR dX10_child_89 fF_RX10_32 rfl rfl ?_
        refine a_bipush dX10_child_92 (v := nI 7) (by decide) ?_
        refine a_iload_n dX10_child_94 rfl ?_
        refine a_iadd dX10_child_95 ?_
        obtain ⟨e6, k⟩ := k
        refine a_iald dX10_child_96 rfl e6 ?_
        exact a_iret dX10_child_97 rfl k
      | 5, _, e =>
        replace k := k.2.2.2.2.2.2 e
        subst e
        refine a_tableIn (off := 86) 98 dX10_child_12 (fun q => hx (Or.inl q)) (fun q => hx (Or.inr q)) (by decide +kernel) (by decide) ?_
        refine a_aload_n dX10_child_98 rfl ?_
        refine a_getR dX10_child_99 fF_RX10_32 rfl rfl ?_
        refine a_bipush dX10_child_102 (v := nI 13) (by decide) ?_
        refine a_iload_n dX10_child_104 rfl ?_
        refine a_iadd dX10_child_105 ?_
        obtain ⟨e7, k⟩ := k
        refine a_iald dX10_child_106 rfl e7 ?_
        exact a_iret dX10_child_107 rfl k
      | j + 6, hj, _ => exact absurd hj (by omega)
  · replace k := k.2 c1
    refine a_ldc dX10_child_8 (v := (-1000000001 : Int32)) kK_RX10_192 ?_
    exact a_iret dX10_child_10 rfl k
set_option maxRecDepth 100000 in
theorem w_X10_dummy_0 {G : dh_G} {x1 x2 : Int32} {h : dh_H} {Q : Option Value → dh_H → Prop} (k : dh_C G mX10_isDummy [.ref 61, .int (x1)] h (fun v h1 => dh_J G mX10_dummy 5 [some (.ref 61), some (.int (x1)), some (.int (x2))] (v.toList ++ []) h1 Q)) : dh_J G mX10_dummy 0 [some (.ref 61), some (.int (x1)), some (.int (x2))] [] h Q := by
  refine a_aload_n dX10_dummy_0 rfl ?_
  refine a_iload_n dX10_dummy_1 rfl ?_
  exact a_callV1 dX10_dummy_2 (dh_Y_up cY_RX10_193 (by decide)) rfl rfl (Nat.le_of_ble_eq_true rfl) k
theorem e_X10_dummy {G : dh_G} {x1 x2 : Int32} {h : dh_H} {Q : Option Value → dh_H → Prop} (k : dh_C G mX10_isDummy [.ref 61, .int (x1)] h (fun v h1 => dh_J G mX10_dummy 5 [some (.ref 61), some (.int (x1)), some (.int (x2))] (v.toList ++ []) h1 Q)) : dh_C G mX10_dummy [.ref 61, .int (x1), .int (x2)] h Q := dh_C_of [some (.ref 61), some (.int (x1)), some (.int (x2))] (by decide) (Nat.le_of_ble_eq_true rfl) rfl (w_X10_dummy_0 k)
set_option maxRecDepth 100000 in
theorem w_X10_dummy_5 {G : dh_G} {x1 x2 s0 : Int32} {h : dh_H} {Q : Option Value → dh_H → Prop} (k : ((¬ s0 = 0) → ((x2).toInt < 0 ∨ 7 < (x2).toInt → Q (some (.int ((-1000000002 : Int32)))) h) ∧ (x2 = nI 0 → (vp_in (((nI 4) * x1) + (nI 0)) 24) ∧ Q (some (.int (h 66 (((nI 4) * x1) + (nI 0)).toNatClampNeg))) h) ∧ (x2 = nI 1 → (vp_in (((nI 4) * x1) + (nI 1)) 24) ∧ Q (some (.int (h 66 (((nI 4) * x1) + (nI 1)).toNatClampNeg))) h) ∧ (x2 = nI 2 → (vp_in (((nI 4) * x1) + (nI 2)) 24) ∧ Q (some (.int (h 66 (((nI 4) * x1) + (nI 2)).toNatClampNeg))) h) ∧ (x2 = nI 3 → (vp_in (((nI 4) * x1) + (nI 3)) 24) ∧ Q (some (.int (h 66 (((nI 4) * x1) + (nI 3)).toNatClampNeg))) h) ∧ (x2 = nI 4 → dh_C G mX10_holderOf [.ref 61, .int (x1)] h (fun v h1 => dh_J G mX10_dummy 76 [none, none, none] (v.toList ++ []) h1 Q)) ∧ (x2 = nI 5 → (vp_in ((nI 20) + x1) 32) ∧ Q (some (.int (h 68 ((nI 20) + x1).toNatClampNeg))) h) ∧ (x2 = nI 6 → (vp_in ((nI 26) + x1) 32) ∧ Q (some (.int (h 68 ((nI 26) + x1).toNatClampNeg))) h) ∧ (x2 = nI 7 → dh_C G mX10_has [.int (h 68 19), .int (x1)] h (fun v h1 => dh_J G mX10_dummy 108 [some (.ref 61), some (.int (x1)), none] (v.toList ++ []) h1 Q))) ∧ ((s0 = 0) → Q (some (.int ((-1000000001 : Int32)))) h)) : dh_J G mX10_dummy 5 [some (.ref 61), some (.int (x1)), some (.int (x2))] [.int (s0)] h Q := by
  refine a_if_ne 11 dX10_dummy_5 (by decide) (fun c1 => ?_) (fun c1 => ?_)
  · replace k := k.1 c1
    refine a_iload_n dX10_dummy_11 rfl ?_
    by_cases hx : (x2).toInt < 0 ∨ 7 < (x2).toInt
    · replace k := k.1 hx
      refine a_tableOut 130 dX10_dummy_12 hx (by decide) ?_
      refine a_ldc dX10_dummy_130 (v := (-1000000002 : Int32)) kK_RX10_76 ?_
      exact a_iret dX10_dummy_132 rfl k
    · obtain ⟨j, hj, e⟩ := dh_tab (n := 7) (by decide) hx
      match j, hj, e with
      | 0, _, e =>
        replace k := k.2.1 e
        subst e
        refine a_tableIn (off := 48) 60 dX10_dummy_12 (fun q => hx (Or.inl q)) (fun q => hx (Or.inr q)) (by decide +kernel) (by decide) ?_
        refine a_aload_n dX10_dummy_60 rfl ?_
        refine a_getR dX10_dummy_61 fF_RX10_26 rfl rfl ?_
        refine a_iconst dX10_dummy_64 (v := nI 4) (by decide) ?_
        refine a_iload_n dX10_dummy_65 rfl ?_
        refine a_imul dX10_dummy_66 ?_
        refine a_iload_n dX10_dummy_67 rfl ?_
        refine a_iadd dX10_dummy_68 ?_
        obtain ⟨e2, k⟩ := k
        refine a_iald dX10_dummy_69 rfl e2 ?_
        exact a_iret dX10_dummy_70 rfl k
      | 1, _, e =>
        replace k := k.2.2.1 e
        subst e
        refine a_tableIn (off := 48) 60 dX10_dummy_12 (fun q => hx (Or.inl q)) (fun q => hx (Or.inr q)) (by decide +kernel) (by decide) ?_
        refine a_aload_n dX10_dummy_60 rfl ?_
        refine a_getR dX10_dummy_61 fF_RX10_26 rfl rfl ?_
        refine a_iconst dX10_dummy_64 (v := nI 4) (by decide) ?_
        refine a_iload_n dX10_dummy_65 rfl ?_
        refine a_imul dX10_dummy_66 ?_
        refine a_iload_n dX10_dummy_67 rfl ?_
        refine a_iadd dX10_dummy_68 ?_
        obtain ⟨e3, k⟩ := k
        refine a_iald dX10_dummy_69 rfl e3 ?_
        exact a_iret dX10_dummy_70 rfl k
      | 2, _, e =>
        replace k := k.2.2.2.1 e
        subst e
        refine a_tableIn (off := 48) 60 dX10_dummy_12 (fun q => hx (Or.inl q)) (fun q => hx (Or.inr q)) (by decide +kernel) (by decide) ?_
        refine a_aload_n dX10_dummy_60 rfl ?_
        refine a_getR dX10_dummy_61 fF_RX10_26 rfl rfl ?_
        refine a_iconst dX10_dummy_64 (v := nI 4) (by decide) ?_
        refine a_iload_n dX10_dummy_65 rfl ?_
        refine a_imul dX10_dummy_66 ?_
        refine a_iload_n dX10_dummy_67 rfl ?_
        refine a_iadd dX10_dummy_68 ?_
        obtain ⟨e4, k⟩ := k
        refine a_iald dX10_dummy_69 rfl e4 ?_
        exact a_iret dX10_dummy_70 rfl k
      | 3, _, e =>
        replace k := k.2.2.2.2.1 e
        subst e
        refine a_tableIn (off := 48) 60 dX10_dummy_12 (fun q => hx (Or.inl q)) (fun q => hx (Or.inr q)) (by decide +kernel) (by decide) ?_
        refine a_aload_n dX10_dummy_60 rfl ?_
        refine a_getR dX10_dummy_61 fF_RX10_26 rfl rfl ?_
        refine a_iconst dX10_dummy_64 (v := nI 4) (by decide) ?_
        refine a_iload_n dX10_dummy_65 rfl ?_
        refine a_imul dX10_dummy_66 ?_
        refine a_iload_n dX10_dummy_67 rfl ?_
        refine a_iadd dX10_dummy_68 ?_
        obtain ⟨e5, k⟩ := k
        refine a_iald dX10_dummy_69 rfl e5 ?_
        exact a_iret dX10_dummy_70 rfl k
      | 4, _, e =>
        replace k := k.2.2.2.2.2.1 e
        subst e
        refine a_tableIn (off := 59) 71 dX10_dummy_12 (fun q => hx (Or.inl q)) (fun q => hx (Or.inr q)) (by decide +kernel) (by decide) ?_
        refine a_aload_n dX10_dummy_71 rfl ?_
        refine a_iload_n dX10_dummy_72 rfl ?_
        refine dh_drop 0 ?_
        refine dh_drop 1 ?_
        refine dh_drop 2 ?_
        exact a_callV1 dX10_dummy_73 (dh_Y_up cY_RX10_196 (by decide)) rfl rfl (Nat.le_of_ble_eq_true rfl) k
      | 5, _, e =>
        replace k := k.2.2.2.2.2.2.1 e
        subst e
        refine a_tableIn (off := 65) 77 dX10_dummy_12 (fun q => hx (Or.inl q)) (fun q => hx (Or.inr q)) (by decide +kernel) (by decide) ?_
        refine a_aload_n dX10_dummy_77 rfl ?_
        refine a_getR dX10_dummy_78 fF_RX10_32 rfl rfl ?_
        refine a_bipush dX10_dummy_81 (v := nI 20) (by decide) ?_
        refine a_iload_n dX10_dummy_83 rfl ?_
        refine a_iadd dX10_dummy_84 ?_
        obtain ⟨e6, k⟩ := k
        refine a_iald dX10_dummy_85 rfl e6 ?_
        exact a_iret dX10_dummy_86 rfl k
      | 6, _, e =>
        replace k := k.2.2.2.2.2.2.2.1 e
        subst e
        refine a_tableIn (off := 75) 87 dX10_dummy_12 (fun q => hx (Or.inl q)) (fun q => hx (Or.inr q)) (by decide +kernel) (by decide) ?_
        refine a_aload_n dX10_dummy_87 rfl ?_
        refine a_getR dX10_dummy_88 fF_RX10_32 rfl rfl ?_
        refine a_bipush dX10_dummy_91 (v := nI 26) (by decide) ?_
        refine a_iload_n dX10_dummy_93 rfl ?_
        refine a_iadd dX10_dummy_94 ?_
        obtain ⟨e7, k⟩ := k
        refine a_iald dX10_dummy_95 rfl e7 ?_
        exact a_iret dX10_dummy_96 rfl k
      | 7, _, e =>
        replace k := k.2.2.2.2.2.2.2.2 e
        subst e
        refine a_tableIn (off := 85) 97 dX10_dummy_12 (fun q => hx (Or.inl q)) (fun q => hx (Or.inr q)) (by decide +kernel) (by decide) ?_
        refine a_aload_n dX10_dummy_97 rfl ?_
        refine a_getR dX10_dummy_98 fF_RX10_32 rfl rfl ?_
        refine a_bipush dX10_dummy_101 (v := nI 19) (by decide) ?_
        refine a_ialdN dX10_dummy_103 rfl (j := 19) rfl (by decide) (by decide) ?_
        refine a_iload_n dX10_dummy_104 rfl ?_
        refine dh_drop 2 ?_
        exact a_callS2 dX10_dummy_105 (dh_Y_up cY_RX10_200 (by decide)) (Nat.le_of_ble_eq_true rfl) k
      | j + 8, hj, _ => exact absurd hj (by omega)
  · replace k := k.2 c1
    refine a_ldc dX10_dummy_8 (v := (-1000000001 : Int32)) kK_RX10_192 ?_
    exact a_iret dX10_dummy_10 rfl k
set_option maxRecDepth 100000 in
theorem w_X10_dummy_76 {G : dh_G} {s0 : Int32} {h : dh_H} {Q : Option Value → dh_H → Prop} (k : Q (some (.int (s0))) h) : dh_J G mX10_dummy 76 [none, none, none] [.int (s0)] h Q := by
  exact a_iret dX10_dummy_76 rfl k
set_option maxRecDepth 100000 in
theorem w_X10_dummy_108 {G : dh_G} {x1 s0 : Int32} {h : dh_H} {Q : Option Value → dh_H → Prop} (k : ((s0 = 0) → dh_C G mX10_holderOf [.ref 61, .int (x1)] h (fun v h1 => dh_J G mX10_dummy 120 [none, none, none] (v.toList ++ []) h1 Q)) ∧ ((¬ s0 = 0) → Q (some (.int (nI 1))) h)) : dh_J G mX10_dummy 108 [some (.ref 61), some (.int (x1)), none] [.int (s0)] h Q := by
  refine a_if_eq 115 dX10_dummy_108 (by decide) (fun c1 => ?_) (fun c1 => ?_)
  · replace k := k.1 c1
    refine a_aload_n dX10_dummy_115 rfl ?_
    refine a_iload_n dX10_dummy_116 rfl ?_
    refine dh_drop 0 ?_
    refine dh_drop 1 ?_
    exact a_callV1 dX10_dummy_117 (dh_Y_up cY_RX10_196 (by decide)) rfl rfl (Nat.le_of_ble_eq_true rfl) k
  · replace k := k.2 c1
    refine a_iconst dX10_dummy_111 (v := nI 1) (by decide) ?_
    refine a_goto 129 dX10_dummy_112 (by decide) ?_
    exact a_iret dX10_dummy_129 rfl k
set_option maxRecDepth 100000 in
theorem w_X10_dummy_120 {G : dh_G} {s0 : Int32} {h : dh_H} {Q : Option Value → dh_H → Prop} (k : ((s0 = (-1 : Int32)) → Q (some (.int (nI 0))) h) ∧ ((¬ s0 = (-1 : Int32)) → Q (some (.int (nI 2))) h)) : dh_J G mX10_dummy 120 [none, none, none] [.int (s0)] h Q := by
  refine a_iconst dX10_dummy_120 (v := (-1 : Int32)) (by decide) ?_
  refine a_icmp_eq 128 dX10_dummy_121 (by decide) (fun c1 => ?_) (fun c1 => ?_)
  · replace k := k.1 c1
    refine a_iconst dX10_dummy_128 (v := nI 0) (by decide) ?_
    exact a_iret dX10_dummy_129 rfl k
  · replace k := k.2 c1
    refine a_iconst dX10_dummy_124 (v := nI 2) (by decide) ?_
    refine a_goto 129 dX10_dummy_125 (by decide) ?_
    exact a_iret dX10_dummy_129 rfl k
set_option maxRecDepth 100000 in
theorem w_X10_note_0 {G : dh_G} {h : dh_H} {Q : Option Value → dh_H → Prop} (k : ((¬ (h 61 26) = (nI 20)) → dh_C G mX10_bring [.ref 68, .int (nI 0), .ref 69, .int ((nI 32) * (h 61 26)), .int (nI 32)] h (fun v h1 => dh_J G mX10_note 57 [some (.ref 61)] (v.toList ++ []) h1 Q)) ∧ (((h 61 26) = (nI 20)) → dh_C G mX10_bring [.ref 69, .int (nI 32), .ref 69, .int (nI 0), .int (nI 608)] h (fun v h1 => dh_J G mX10_note 26 [some (.ref 61)] (v.toList ++ []) h1 Q))) : dh_J G mX10_note 0 [some (.ref 61)] [] h Q := by
  refine a_aload_n dX10_note_0 rfl ?_
  refine a_getI dX10_note_1 fF_RX10_167 rfl rfl ?_
  refine a_bipush dX10_note_4 (v := nI 20) (by decide) ?_
  refine a_icmp_ne 36 dX10_note_6 (by decide) (fun c1 => ?_) (fun c1 => ?_)
  · replace k := k.1 c1
    refine a_aload_n dX10_note_36 rfl ?_
    refine a_getR dX10_note_37 fF_RX10_32 rfl rfl ?_
    refine a_iconst dX10_note_40 (v := nI 0) (by decide) ?_
    refine a_aload_n dX10_note_41 rfl ?_
    refine a_getR dX10_note_42 fF_RX10_35 rfl rfl ?_
    refine a_bipush dX10_note_45 (v := nI 32) (by decide) ?_
    refine a_aload_n dX10_note_47 rfl ?_
    refine a_getI dX10_note_48 fF_RX10_167 rfl rfl ?_
    refine a_imul dX10_note_51 ?_
    refine a_bipush dX10_note_52 (v := nI 32) (by decide) ?_
    exact a_callS5 dX10_note_54 (dh_Y_up cY_RX10_157 (by decide)) (Nat.le_of_ble_eq_true rfl) k
  · replace k := k.2 c1
    refine a_aload_n dX10_note_9 rfl ?_
    refine a_getR dX10_note_10 fF_RX10_35 rfl rfl ?_
    refine a_bipush dX10_note_13 (v := nI 32) (by decide) ?_
    refine a_aload_n dX10_note_15 rfl ?_
    refine a_getR dX10_note_16 fF_RX10_35 rfl rfl ?_
    refine a_iconst dX10_note_19 (v := nI 0) (by decide) ?_
    refine a_sipush dX10_note_20 (v := nI 608) (by decide) ?_
    exact a_callS5 dX10_note_23 (dh_Y_up cY_RX10_157 (by decide)) (Nat.le_of_ble_eq_true rfl) k
theorem e_X10_note {G : dh_G} {h : dh_H} {Q : Option Value → dh_H → Prop} (k : ((¬ (h 61 26) = (nI 20)) → dh_C G mX10_bring [.ref 68, .int (nI 0), .ref 69, .int ((nI 32) * (h 61 26)), .int (nI 32)] h (fun v h1 => dh_J G mX10_note 57 [some (.ref 61)] (v.toList ++ []) h1 Q)) ∧ (((h 61 26) = (nI 20)) → dh_C G mX10_bring [.ref 69, .int (nI 32), .ref 69, .int (nI 0), .int (nI 608)] h (fun v h1 => dh_J G mX10_note 26 [some (.ref 61)] (v.toList ++ []) h1 Q))) : dh_C G mX10_note [.ref 61] h Q := dh_C_of [some (.ref 61)] (by decide) (Nat.le_of_ble_eq_true rfl) rfl (w_X10_note_0 k)
