set_option maxRecDepth 100000 in
theorem w_X6_append_0 {G : dh_G} {x1 : Int32} {h : dh_H} {Q : Option Value → dh_H → Prop} (k : (((h 1 1) < (nI 240)) → (vp_in (h 1 1) 240) ∧ Q (some (.int (nI 1))) (dh_s (dh_s h 2 (h 1 1).toNatClampNeg x1) 1 1 ((h 1 1) + (nI 1)))) ∧ ((¬ (h 1 1) < (nI 240)) → Q (some (.int (nI 0))) h)) : dh_J G mX6_append 0 [some (.ref 1), some (.int (x1))] [] h Q := by
  refine a_aload_n dX6_append_0 rfl ?_
  refine a_getI dX6_append_1 fF_RX6_19 rfl rfl ?_
  refine a_sipush dX6_append_4 (v := nI 240) (by decide) ?_
  refine a_icmp_lt 12 dX6_append_7 (by decide) (fun c1 => ?_) (fun c1 => ?_)
  · replace k := k.1 c1
    refine a_aload_n dX6_append_12 rfl ?_
    refine a_getR dX6_append_13 fF_RX6_9 rfl rfl ?_
    refine a_aload_n dX6_append_16 rfl ?_
    refine a_getI dX6_append_17 fF_RX6_19 rfl rfl ?_
    refine a_iload_n dX6_append_20 rfl ?_
    obtain ⟨e2, k⟩ := k
    refine a_iast dX6_append_21 rfl e2 ?_
    refine a_aload_n dX6_append_22 rfl ?_
    refine a_dup dX6_append_23 rfl ?_
    refine a_getI dX6_append_24 fF_RX6_19 rfl rfl ?_
    refine a_iconst dX6_append_27 (v := nI 1) (by decide) ?_
    refine a_iadd dX6_append_28 ?_
    refine a_put dX6_append_29 fF_RX6_19 rfl rfl rfl rfl ?_
    refine a_iconst dX6_append_32 (v := nI 1) (by decide) ?_
    exact a_zret dX6_append_33 rfl (by decide) k
  · replace k := k.2 c1
    refine a_iconst dX6_append_10 (v := nI 0) (by decide) ?_
    exact a_zret dX6_append_11 rfl (by decide) k
theorem e_X6_append {G : dh_G} {x1 : Int32} {h : dh_H} {Q : Option Value → dh_H → Prop} (k : (((h 1 1) < (nI 240)) → (vp_in (h 1 1) 240) ∧ Q (some (.int (nI 1))) (dh_s (dh_s h 2 (h 1 1).toNatClampNeg x1) 1 1 ((h 1 1) + (nI 1)))) ∧ ((¬ (h 1 1) < (nI 240)) → Q (some (.int (nI 0))) h)) : dh_C G mX6_append [.ref 1, .int (x1)] h Q := dh_C_of [some (.ref 1), some (.int (x1))] (by decide) (Nat.le_of_ble_eq_true rfl) rfl (w_X6_append_0 k)
set_option maxRecDepth 100000 in
theorem w_X6_readInto_0 {G : dh_G} {h : dh_H} {Q : Option Value → dh_H → Prop} (k : dh_C G mX5_reset [.ref 11] h (fun v h1 => dh_J G mX6_readInto 4 [some (.ref 1), some (.ref 11), none] (v.toList ++ []) h1 Q)) : dh_J G mX6_readInto 0 [some (.ref 1), some (.ref 11), none] [] h Q := by
  refine a_aload_n dX6_readInto_0 rfl ?_
  exact a_callV0 dX6_readInto_1 (dh_Y_up cY_RX6_22 (by decide)) rfl rfl (Nat.le_of_ble_eq_true rfl) k
theorem e_X6_readInto {G : dh_G} {h : dh_H} {Q : Option Value → dh_H → Prop} (k : dh_C G mX5_reset [.ref 11] h (fun v h1 => dh_J G mX6_readInto 4 [some (.ref 1), some (.ref 11), none] (v.toList ++ []) h1 Q)) : dh_C G mX6_readInto [.ref 1, .ref 11] h Q := dh_C_of [some (.ref 1), some (.ref 11), none] (by decide) (Nat.le_of_ble_eq_true rfl) rfl (w_X6_readInto_0 k)
set_option maxRecDepth 100000 in
theorem w_X6_readInto_4 {G : dh_G} {h : dh_H} {Q : Option Value → dh_H → Prop} (k : dh_C G mX6_skipBlanks [.ref 1] (dh_s (dh_s (dh_s h 1 2 (nI 0)) 1 4 (nI 0)) 1 5 (-1 : Int32)) (fun v h1 => dh_J G mX6_readInto 23 [some (.ref 1), some (.ref 11), none] (v.toList ++ []) h1 Q)) : dh_J G mX6_readInto 4 [some (.ref 1), some (.ref 11), none] [] h Q := by
  refine a_aload_n dX6_readInto_4 rfl ?_
  refine a_iconst dX6_readInto_5 (v := nI 0) (by decide) ?_
  refine a_put dX6_readInto_6 fF_RX6_27 rfl rfl rfl rfl ?_
  refine a_aload_n dX6_readInto_9 rfl ?_
  refine a_iconst dX6_readInto_10 (v := nI 0) (by decide) ?_
  refine a_put dX6_readInto_11 fF_RX6_30 rfl rfl rfl rfl ?_
  refine a_aload_n dX6_readInto_14 rfl ?_
  refine a_iconst dX6_readInto_15 (v := (-1 : Int32)) (by decide) ?_
  refine a_put dX6_readInto_16 fF_RX6_15 rfl rfl rfl rfl ?_
  refine a_aload_n dX6_readInto_19 rfl ?_
  exact a_callV0 dX6_readInto_20 (dh_Y_up cY_RX6_33 (by decide)) rfl rfl (Nat.le_of_ble_eq_true rfl) k
set_option maxRecDepth 100000 in
theorem w_X6_readInto_23 {G : dh_G} {h : dh_H} {Q : Option Value → dh_H → Prop} (k : (((h 1 2) < (h 1 1)) → dh_C G mX6_readHead [.ref 1, .ref 11] h (fun v h1 => dh_J G mX6_readInto 41 [some (.ref 1), some (.ref 11), none] (v.toList ++ []) h1 Q)) ∧ ((¬ (h 1 2) < (h 1 1)) → Q (some (.int (nI 1))) h)) : dh_J G mX6_readInto 23 [some (.ref 1), some (.ref 11), none] [] h Q := by
  refine a_aload_n dX6_readInto_23 rfl ?_
  refine a_getI dX6_readInto_24 fF_RX6_27 rfl rfl ?_
  refine a_aload_n dX6_readInto_27 rfl ?_
  refine a_getI dX6_readInto_28 fF_RX6_19 rfl rfl ?_
  refine a_icmp_lt 36 dX6_readInto_31 (by decide) (fun c1 => ?_) (fun c1 => ?_)
  · replace k := k.1 c1
    refine a_aload_n dX6_readInto_36 rfl ?_
    refine a_aload_n dX6_readInto_37 rfl ?_
    exact a_callV1 dX6_readInto_38 (dh_Y_up cY_RX6_36 (by decide)) rfl rfl (Nat.le_of_ble_eq_true rfl) k
  · replace k := k.2 c1
    refine a_iconst dX6_readInto_34 (v := nI 1) (by decide) ?_
    exact a_zret dX6_readInto_35 rfl (by decide) k
set_option maxRecDepth 100000 in
theorem w_X6_readInto_41 {G : dh_G} {h : dh_H} {Q : Option Value → dh_H → Prop} (k : dh_C G mX6_skipBlanks [.ref 1] h (fun v h1 => dh_J G mX6_readInto 45 [some (.ref 1), some (.ref 11), none] (v.toList ++ []) h1 Q)) : dh_J G mX6_readInto 41 [some (.ref 1), some (.ref 11), none] [] h Q := by
  refine a_aload_n dX6_readInto_41 rfl ?_
  exact a_callV0 dX6_readInto_42 (dh_Y_up cY_RX6_33 (by decide)) rfl rfl (Nat.le_of_ble_eq_true rfl) k
set_option maxRecDepth 100000 in
theorem w_X6_readInto_45 {G : dh_G} {h : dh_H} {Q : Option Value → dh_H → Prop} (k : dh_J G mX6_readInto 47 [some (.ref 1), some (.ref 11), some (.int (nI 0))] [] h Q) : dh_J G mX6_readInto 45 [some (.ref 1), some (.ref 11), none] [] h Q := by
  refine a_iconst dX6_readInto_45 (v := nI 0) (by decide) ?_
  refine a_istore_n dX6_readInto_46 (by decide) rfl ?_
  exact k
set_option maxRecDepth 100000 in
theorem w_X6_readInto_47 {G : dh_G} {x2 : Int32} {h : dh_H} {Q : Option Value → dh_H → Prop} (k : (((nI 240) ≤ x2) → ((¬ (h 1 4) = 0) → Q (some (.int (nI 0))) h) ∧ (((h 1 4) = 0) → Q (some (.int (nI 1))) h)) ∧ ((¬ (nI 240) ≤ x2) → ((¬ (h 1 4) = 0) → ((¬ (h 1 4) = 0) → Q (some (.int (nI 0))) h) ∧ (((h 1 4) = 0) → Q (some (.int (nI 1))) h)) ∧ (((h 1 4) = 0) → (((h 1 1) ≤ (h 1 2)) → ((¬ (h 1 4) = 0) → Q (some (.int (nI 0))) h) ∧ (((h 1 4) = 0) → Q (some (.int (nI 1))) h)) ∧ ((¬ (h 1 1) ≤ (h 1 2)) → dh_C G mX6_readClause [.ref 1, .ref 11] h (fun v h1 => dh_J G mX6_readInto 77 [some (.ref 1), some (.ref 11), some (.int (x2))] (v.toList ++ []) h1 Q))))) : dh_J G mX6_readInto 47 [some (.ref 1), some (.ref 11), some (.int (x2))] [] h Q := by
  refine a_iload_n dX6_readInto_47 rfl ?_
  refine a_sipush dX6_readInto_48 (v := nI 240) (by decide) ?_
  refine a_icmp_ge 87 dX6_readInto_51 (by decide) (fun c1 => ?_) (fun c1 => ?_)
  · replace k := k.1 c1
    refine a_aload_n dX6_readInto_87 rfl ?_
    refine a_getI dX6_readInto_88 fF_RX6_30 rfl rfl ?_
    refine a_if_ne 98 dX6_readInto_91 (by decide) (fun c2 => ?_) (fun c2 => ?_)
    · replace k := k.1 c2
      refine a_iconst dX6_readInto_98 (v := nI 0) (by decide) ?_
      exact a_zret dX6_readInto_99 rfl (by decide) k
    · replace k := k.2 c2
      refine a_iconst dX6_readInto_94 (v := nI 1) (by decide) ?_
      refine a_goto 99 dX6_readInto_95 (by decide) ?_
      exact a_zret dX6_readInto_99 rfl (by decide) k
  · replace k := k.2 c1
    refine a_aload_n dX6_readInto_54 rfl ?_
    refine a_getI dX6_readInto_55 fF_RX6_30 rfl rfl ?_
    refine a_if_ne 87 dX6_readInto_58 (by decide) (fun c3 => ?_) (fun c3 => ?_)
    · replace k := k.1 c3
      refine a_aload_n dX6_readInto_87 rfl ?_
      refine a_getI dX6_readInto_88 fF_RX6_30 rfl rfl ?_
      refine a_if_ne 98 dX6_readInto_91 (by decide) (fun c4 => ?_) (fun c4 => ?_)
      · replace k := k.1 c4
        refine a_iconst dX6_readInto_98 (v := nI 0) (by decide) ?_
        exact a_zret dX6_readInto_99 rfl (by decide) k
      · replace k := k.2 c4
        refine a_iconst dX6_readInto_94 (v := nI 1) (by decide) ?_
        refine a_goto 99 dX6_readInto_95 (by decide) ?_
        exact a_zret dX6_readInto_99 rfl (by decide) k
    · replace k := k.2 c3
      refine a_aload_n dX6_readInto_61 rfl ?_
      refine a_getI dX6_readInto_62 fF_RX6_27 rfl rfl ?_
      refine a_aload_n dX6_readInto_65 rfl ?_
      refine a_getI dX6_readInto_66 fF_RX6_19 rfl rfl ?_
      refine a_icmp_ge 87 dX6_readInto_69 (by decide) (fun c5 => ?_) (fun c5 => ?_)
      · replace k := k.1 c5
        refine a_aload_n dX6_readInto_87 rfl ?_
        refine a_getI dX6_readInto_88 fF_RX6_30 rfl rfl ?_
        refine a_if_ne 98 dX6_readInto_91 (by decide) (fun c6 => ?_) (fun c6 => ?_)
        · replace k := k.1 c6
          refine a_iconst dX6_readInto_98 (v := nI 0) (by decide) ?_
          exact a_zret dX6_readInto_99 rfl (by decide) k
        · replace k := k.2 c6
          refine a_iconst dX6_readInto_94 (v := nI 1) (by decide) ?_
          refine a_goto 99 dX6_readInto_95 (by decide) ?_
          exact a_zret dX6_readInto_99 rfl (by decide) k
      · replace k := k.2 c5
        refine a_aload_n dX6_readInto_72 rfl ?_
        refine a_aload_n dX6_readInto_73 rfl ?_
        exact a_callV1 dX6_readInto_74 (dh_Y_up cY_RX6_40 (by decide)) rfl rfl (Nat.le_of_ble_eq_true rfl) k
set_option maxRecDepth 100000 in
theorem w_X6_readInto_77 {G : dh_G} {x2 : Int32} {h : dh_H} {Q : Option Value → dh_H → Prop} (k : dh_C G mX6_skipBlanks [.ref 1] h (fun v h1 => dh_J G mX6_readInto 81 [some (.ref 1), some (.ref 11), some (.int (x2))] (v.toList ++ []) h1 Q)) : dh_J G mX6_readInto 77 [some (.ref 1), some (.ref 11), some (.int (x2))] [] h Q := by
  refine a_aload_n dX6_readInto_77 rfl ?_
  exact a_callV0 dX6_readInto_78 (dh_Y_up cY_RX6_33 (by decide)) rfl rfl (Nat.le_of_ble_eq_true rfl) k
set_option maxRecDepth 100000 in
theorem w_X6_readInto_81 {G : dh_G} {x2 : Int32} {h : dh_H} {Q : Option Value → dh_H → Prop} (k : dh_J G mX6_readInto 47 [some (.ref 1), some (.ref 11), some (.int (x2 + (nI 1)))] [] h Q) : dh_J G mX6_readInto 81 [some (.ref 1), some (.ref 11), some (.int (x2))] [] h Q := by
  refine a_iinc dX6_readInto_81 (v := x2 + (nI 1)) rfl (by rfl) (by decide) rfl ?_
  refine a_goto 47 dX6_readInto_84 (by decide) ?_
  exact k
set_option maxRecDepth 100000 in
theorem w_X6_readHead_0 {G : dh_G} {h : dh_H} {Q : Option Value → dh_H → Prop} (k : dh_C G mX6_letterHere [.ref 1] h (fun v h1 => dh_J G mX6_readHead 4 [some (.ref 1), some (.ref 11), none, none] (v.toList ++ []) h1 Q)) : dh_J G mX6_readHead 0 [some (.ref 1), some (.ref 11), none, none] [] h Q := by
  refine a_aload_n dX6_readHead_0 rfl ?_
  exact a_callV0 dX6_readHead_1 (dh_Y_up cY_RX6_43 (by decide)) rfl rfl (Nat.le_of_ble_eq_true rfl) k
theorem e_X6_readHead {G : dh_G} {h : dh_H} {Q : Option Value → dh_H → Prop} (k : dh_C G mX6_letterHere [.ref 1] h (fun v h1 => dh_J G mX6_readHead 4 [some (.ref 1), some (.ref 11), none, none] (v.toList ++ []) h1 Q)) : dh_C G mX6_readHead [.ref 1, .ref 11] h Q := dh_C_of [some (.ref 1), some (.ref 11), none, none] (by decide) (Nat.le_of_ble_eq_true rfl) rfl (w_X6_readHead_0 k)
set_option maxRecDepth 100000 in
theorem w_X6_readHead_4 {G : dh_G} {s0 : Int32} {h : dh_H} {Q : Option Value → dh_H → Prop} (k : ((s0 = (nI 110)) → dh_C G mX6_readNumber [.ref 1, .int (nI 1), .int (nI 99)] (dh_s h 1 2 ((h 1 2) + (nI 1))) (fun v h1 => dh_J G mX6_readHead 36 [some (.ref 1), some (.ref 11), none, none] (v.toList ++ []) h1 Q)) ∧ ((¬ s0 = (nI 110)) → dh_C G mX6_fail [.ref 1, .int (nI 1), .int (h 1 2)] h (fun v h1 => dh_J G mX6_readHead 18 [none, none, none, none] (v.toList ++ []) h1 Q))) : dh_J G mX6_readHead 4 [some (.ref 1), some (.ref 11), none, none] [.int (s0)] h Q := by
  refine a_bipush dX6_readHead_4 (v := nI 110) (by decide) ?_
  refine a_icmp_eq 19 dX6_readHead_6 (by decide) (fun c1 => ?_) (fun c1 => ?_)
  · replace k := k.1 c1
    refine a_aload_n dX6_readHead_19 rfl ?_
    refine a_dup dX6_readHead_20 rfl ?_
    refine a_getI dX6_readHead_21 fF_RX6_27 rfl rfl ?_
    refine a_iconst dX6_readHead_24 (v := nI 1) (by decide) ?_
    refine a_iadd dX6_readHead_25 ?_
    refine a_put dX6_readHead_26 fF_RX6_27 rfl rfl rfl rfl ?_
    refine a_aload_n dX6_readHead_29 rfl ?_
    refine a_iconst dX6_readHead_30 (v := nI 1) (by decide) ?_
    refine a_bipush dX6_readHead_31 (v := nI 99) (by decide) ?_
    exact a_callV2 dX6_readHead_33 (dh_Y_up cY_RX6_51 (by decide)) rfl rfl (Nat.le_of_ble_eq_true rfl) k
  · replace k := k.2 c1
    refine a_aload_n dX6_readHead_9 rfl ?_
    refine a_iconst dX6_readHead_10 (v := nI 1) (by decide) ?_
    refine a_aload_n dX6_readHead_11 rfl ?_
    refine a_getI dX6_readHead_12 fF_RX6_27 rfl rfl ?_
    refine dh_drop 0 ?_
    refine dh_drop 1 ?_
    exact a_callV2 dX6_readHead_15 (dh_Y_up cY_RX6_47 (by decide)) rfl rfl (Nat.le_of_ble_eq_true rfl) k
set_option maxRecDepth 100000 in
theorem w_X6_readHead_18 {G : dh_G} {h : dh_H} {Q : Option Value → dh_H → Prop} (k : Q none h) : dh_J G mX6_readHead 18 [none, none, none, none] [] h Q := by
  exact a_vret dX6_readHead_18 rfl k
set_option maxRecDepth 100000 in
theorem w_X6_readHead_36 {G : dh_G} {s0 : Int32} {h : dh_H} {Q : Option Value → dh_H → Prop} (k : dh_C G mX6_readNumber [.ref 1, .int (nI 0), .int (nI 100)] h (fun v h1 => dh_J G mX6_readHead 44 [some (.ref 1), some (.ref 11), some (.int (s0)), none] (v.toList ++ []) h1 Q)) : dh_J G mX6_readHead 36 [some (.ref 1), some (.ref 11), none, none] [.int (s0)] h Q := by
  refine a_istore_n dX6_readHead_36 (by decide) rfl ?_
  refine a_aload_n dX6_readHead_37 rfl ?_
  refine a_iconst dX6_readHead_38 (v := nI 0) (by decide) ?_
  refine a_bipush dX6_readHead_39 (v := nI 100) (by decide) ?_
  exact a_callV2 dX6_readHead_41 (dh_Y_up cY_RX6_51 (by decide)) rfl rfl (Nat.le_of_ble_eq_true rfl) k
set_option maxRecDepth 100000 in
theorem w_X6_readHead_44 {G : dh_G} {x2 s0 : Int32} {h : dh_H} {Q : Option Value → dh_H → Prop} (k : dh_C G mX6_readSemicolon [.ref 1] h (fun v h1 => dh_J G mX6_readHead 49 [none, some (.ref 11), some (.int (x2)), some (.int (s0))] (v.toList ++ []) h1 Q)) : dh_J G mX6_readHead 44 [some (.ref 1), some (.ref 11), some (.int (x2)), none] [.int (s0)] h Q := by
  refine a_istore_n dX6_readHead_44 (by decide) rfl ?_
  refine a_aload_n dX6_readHead_45 rfl ?_
  refine dh_drop 0 ?_
  exact a_callV0 dX6_readHead_46 (dh_Y_up cY_RX6_55 (by decide)) rfl rfl (Nat.le_of_ble_eq_true rfl) k
set_option maxRecDepth 100000 in
theorem w_X6_readHead_49 {G : dh_G} {x2 x3 : Int32} {h : dh_H} {Q : Option Value → dh_H → Prop} (k : Q none (dh_s (dh_s (dh_s h 11 0 (nI 1)) 11 1 x2) 11 2 x3)) : dh_J G mX6_readHead 49 [none, some (.ref 11), some (.int (x2)), some (.int (x3))] [] h Q := by
  refine a_aload_n dX6_readHead_49 rfl ?_
  refine a_iconst dX6_readHead_50 (v := nI 1) (by decide) ?_
  refine a_put dX6_readHead_51 fF_RX6_58 rfl rfl (by decide) (by decide) ?_
  refine a_aload_n dX6_readHead_54 rfl ?_
  refine a_iload_n dX6_readHead_55 rfl ?_
  refine a_put dX6_readHead_56 fF_RX6_62 rfl rfl rfl rfl ?_
  refine a_aload_n dX6_readHead_59 rfl ?_
  refine a_iload_n dX6_readHead_60 rfl ?_
  refine a_put dX6_readHead_61 fF_RX6_65 rfl rfl rfl rfl ?_
  exact a_vret dX6_readHead_64 rfl k
set_option maxRecDepth 100000 in
theorem w_X6_readClause_0 {G : dh_G} {h : dh_H} {Q : Option Value → dh_H → Prop} (k : dh_C G mX6_letterHere [.ref 1] h (fun v h1 => dh_J G mX6_readClause 4 [some (.ref 1), some (.ref 11), none] (v.toList ++ []) h1 Q)) : dh_J G mX6_readClause 0 [some (.ref 1), some (.ref 11), none] [] h Q := by
  refine a_aload_n dX6_readClause_0 rfl ?_
  exact a_callV0 dX6_readClause_1 (dh_Y_up cY_RX6_43 (by decide)) rfl rfl (Nat.le_of_ble_eq_true rfl) k
theorem e_X6_readClause {G : dh_G} {h : dh_H} {Q : Option Value → dh_H → Prop} (k : dh_C G mX6_letterHere [.ref 1] h (fun v h1 => dh_J G mX6_readClause 4 [some (.ref 1), some (.ref 11), none] (v.toList ++ []) h1 Q)) : dh_C G mX6_readClause [.ref 1, .ref 11] h Q := dh_C_of [some (.ref 1), some (.ref 11), none] (by decide) (Nat.le_of_ble_eq_true rfl) rfl (w_X6_readClause_0 k)
set_option maxRecDepth 100000 in
theorem w_X6_readClause_4 {G : dh_G} {s0 : Int32} {h : dh_H} {Q : Option Value → dh_H → Prop} (k : ((¬ s0 = (nI 99)) → ((¬ s0 = (nI 100)) → ((¬ s0 = (nI 110)) → dh_C G mX6_fail [.ref 1, .int (nI 1), .int (h 1 2)] h (fun v h1 => dh_J G mX6_readClause 52 [none, none, none] (v.toList ++ []) h1 Q)) ∧ ((s0 = (nI 110)) → dh_C G mX6_fail [.ref 1, .int (nI 3), .int (h 1 2)] h (fun v h1 => dh_J G mX6_readClause 52 [none, none, none] (v.toList ++ []) h1 Q))) ∧ ((s0 = (nI 100)) → dh_C G mX6_readDummy [.ref 1, .ref 11] h (fun v h1 => dh_J G mX6_readClause 30 [none, none, none] (v.toList ++ []) h1 Q))) ∧ ((s0 = (nI 99)) → dh_C G mX6_readChild [.ref 1, .ref 11] h (fun v h1 => dh_J G mX6_readClause 16 [none, none, none] (v.toList ++ []) h1 Q))) : dh_J G mX6_readClause 4 [some (.ref 1), some (.ref 11), none] [.int (s0)] h Q := by
  refine a_istore_n dX6_readClause_4 (by decide) rfl ?_
  refine a_iload_n dX6_readClause_5 rfl ?_
  refine a_bipush dX6_readClause_6 (v := nI 99) (by decide) ?_
  refine a_icmp_ne 19 dX6_readClause_8 (by decide) (fun c1 => ?_) (fun c1 => ?_)
  · replace k := k.1 c1
    refine a_iload_n dX6_readClause_19 rfl ?_
    refine a_bipush dX6_readClause_20 (v := nI 100) (by decide) ?_
    refine a_icmp_ne 33 dX6_readClause_22 (by decide) (fun c2 => ?_) (fun c2 => ?_)
    · replace k := k.1 c2
      refine a_aload_n dX6_readClause_33 rfl ?_
      refine a_iload_n dX6_readClause_34 rfl ?_
      refine a_bipush dX6_readClause_35 (v := nI 110) (by decide) ?_
      refine a_icmp_ne 44 dX6_readClause_37 (by decide) (fun c3 => ?_) (fun c3 => ?_)
      · replace k := k.1 c3
        refine a_iconst dX6_readClause_44 (v := nI 1) (by decide) ?_
        refine a_aload_n dX6_readClause_45 rfl ?_
        refine a_getI dX6_readClause_46 fF_RX6_27 rfl rfl ?_
        refine dh_drop 0 ?_
        refine dh_drop 1 ?_
        refine dh_drop 2 ?_
        exact a_callV2 dX6_readClause_49 (dh_Y_up cY_RX6_47 (by decide)) rfl rfl (Nat.le_of_ble_eq_true rfl) k
      · replace k := k.2 c3
        refine a_iconst dX6_readClause_40 (v := nI 3) (by decide) ?_
        refine a_goto 45 dX6_readClause_41 (by decide) ?_
        refine a_aload_n dX6_readClause_45 rfl ?_
        refine a_getI dX6_readClause_46 fF_RX6_27 rfl rfl ?_
        refine dh_drop 0 ?_
        refine dh_drop 1 ?_
        refine dh_drop 2 ?_
        exact a_callV2 dX6_readClause_49 (dh_Y_up cY_RX6_47 (by decide)) rfl rfl (Nat.le_of_ble_eq_true rfl) k
    · replace k := k.2 c2
      refine a_aload_n dX6_readClause_25 rfl ?_
      refine a_aload_n dX6_readClause_26 rfl ?_
      refine dh_drop 0 ?_
      refine dh_drop 1 ?_
      refine dh_drop 2 ?_
      exact a_callV1 dX6_readClause_27 (dh_Y_up cY_RX6_71 (by decide)) rfl rfl (Nat.le_of_ble_eq_true rfl) k
  · replace k := k.2 c1
    refine a_aload_n dX6_readClause_11 rfl ?_
    refine a_aload_n dX6_readClause_12 rfl ?_
    refine dh_drop 0 ?_
    refine dh_drop 1 ?_
    refine dh_drop 2 ?_
    exact a_callV1 dX6_readClause_13 (dh_Y_up cY_RX6_68 (by decide)) rfl rfl (Nat.le_of_ble_eq_true rfl) k
set_option maxRecDepth 100000 in
theorem w_X6_readClause_16 {G : dh_G} {h : dh_H} {Q : Option Value → dh_H → Prop} (k : dh_J G mX6_readClause 52 [none, none, none] [] h Q) : dh_J G mX6_readClause 16 [none, none, none] [] h Q := by
  refine a_goto 52 dX6_readClause_16 (by decide) ?_
  exact k
set_option maxRecDepth 100000 in
theorem w_X6_readClause_30 {G : dh_G} {h : dh_H} {Q : Option Value → dh_H → Prop} (k : dh_J G mX6_readClause 52 [none, none, none] [] h Q) : dh_J G mX6_readClause 30 [none, none, none] [] h Q := by
  refine a_goto 52 dX6_readClause_30 (by decide) ?_
  exact k
set_option maxRecDepth 100000 in
theorem w_X6_readClause_52 {G : dh_G} {h : dh_H} {Q : Option Value → dh_H → Prop} (k : Q none h) : dh_J G mX6_readClause 52 [none, none, none] [] h Q := by
  exact a_vret dX6_readClause_52 rfl k
set_option maxRecDepth 100000 in
theorem w_X6_readChild_0 {G : dh_G} {h : dh_H} {Q : Option Value → dh_H → Prop} (k : (((h 11 3) < (nI 6)) → dh_C G mX6_readNumber [.ref 1, .int (nI 0), .int (nI 3)] (dh_s h 1 2 ((h 1 2) + (nI 1))) (fun v h1 => dh_J G mX6_readChild 35 [some (.ref 1), some (.ref 11), none, none] (v.toList ++ []) h1 Q)) ∧ ((¬ (h 11 3) < (nI 6)) → dh_C G mX6_fail [.ref 1, .int (nI 3), .int (h 1 2)] h (fun v h1 => dh_J G mX6_readChild 18 [none, none, none, none] (v.toList ++ []) h1 Q))) : dh_J G mX6_readChild 0 [some (.ref 1), some (.ref 11), none, none] [] h Q := by
  refine a_aload_n dX6_readChild_0 rfl ?_
  refine a_getI dX6_readChild_1 fF_RX6_74 rfl rfl ?_
  refine a_bipush dX6_readChild_4 (v := nI 6) (by decide) ?_
  refine a_icmp_lt 19 dX6_readChild_6 (by decide) (fun c1 => ?_) (fun c1 => ?_)
  · replace k := k.1 c1
    refine a_aload_n dX6_readChild_19 rfl ?_
    refine a_dup dX6_readChild_20 rfl ?_
    refine a_getI dX6_readChild_21 fF_RX6_27 rfl rfl ?_
    refine a_iconst dX6_readChild_24 (v := nI 1) (by decide) ?_
    refine a_iadd dX6_readChild_25 ?_
    refine a_put dX6_readChild_26 fF_RX6_27 rfl rfl rfl rfl ?_
    refine a_aload_n dX6_readChild_29 rfl ?_
    refine a_iconst dX6_readChild_30 (v := nI 0) (by decide) ?_
    refine a_iconst dX6_readChild_31 (v := nI 3) (by decide) ?_
    exact a_callV2 dX6_readChild_32 (dh_Y_up cY_RX6_51 (by decide)) rfl rfl (Nat.le_of_ble_eq_true rfl) k
  · replace k := k.2 c1
    refine a_aload_n dX6_readChild_9 rfl ?_
    refine a_iconst dX6_readChild_10 (v := nI 3) (by decide) ?_
    refine a_aload_n dX6_readChild_11 rfl ?_
    refine a_getI dX6_readChild_12 fF_RX6_27 rfl rfl ?_
    refine dh_drop 0 ?_
    refine dh_drop 1 ?_
    exact a_callV2 dX6_readChild_15 (dh_Y_up cY_RX6_47 (by decide)) rfl rfl (Nat.le_of_ble_eq_true rfl) k
theorem e_X6_readChild {G : dh_G} {h : dh_H} {Q : Option Value → dh_H → Prop} (k : (((h 11 3) < (nI 6)) → dh_C G mX6_readNumber [.ref 1, .int (nI 0), .int (nI 3)] (dh_s h 1 2 ((h 1 2) + (nI 1))) (fun v h1 => dh_J G mX6_readChild 35 [some (.ref 1), some (.ref 11), none, none] (v.toList ++ []) h1 Q)) ∧ ((¬ (h 11 3) < (nI 6)) → dh_C G mX6_fail [.ref 1, .int (nI 3), .int (h 1 2)] h (fun v h1 => dh_J G mX6_readChild 18 [none, none, none, none] (v.toList ++ []) h1 Q))) : dh_C G mX6_readChild [.ref 1, .ref 11] h Q := dh_C_of [some (.ref 1), some (.ref 11), none, none] (by decide) (Nat.le_of_ble_eq_true rfl) rfl (w_X6_readChild_0 k)
set_option maxRecDepth 100000 in
theorem w_X6_readChild_18 {G : dh_G} {h : dh_H} {Q : Option Value → dh_H → Prop} (k : Q none h) : dh_J G mX6_readChild 18 [none, none, none, none] [] h Q := by
  exact a_vret dX6_readChild_18 rfl k
set_option maxRecDepth 100000 in
theorem w_X6_readChild_35 {G : dh_G} {s0 : Int32} {h : dh_H} {Q : Option Value → dh_H → Prop} (k : dh_C G mX6_readNumber [.ref 1, .int (nI 0), .int (nI 60)] h (fun v h1 => dh_J G mX6_readChild 43 [some (.ref 1), some (.ref 11), some (.int (s0)), none] (v.toList ++ []) h1 Q)) : dh_J G mX6_readChild 35 [some (.ref 1), some (.ref 11), none, none] [.int (s0)] h Q := by
  refine a_istore_n dX6_readChild_35 (by decide) rfl ?_
  refine a_aload_n dX6_readChild_36 rfl ?_
  refine a_iconst dX6_readChild_37 (v := nI 0) (by decide) ?_
  refine a_bipush dX6_readChild_38 (v := nI 60) (by decide) ?_
  exact a_callV2 dX6_readChild_40 (dh_Y_up cY_RX6_51 (by decide)) rfl rfl (Nat.le_of_ble_eq_true rfl) k
set_option maxRecDepth 100000 in
theorem w_X6_readChild_43 {G : dh_G} {x2 s0 : Int32} {h : dh_H} {Q : Option Value → dh_H → Prop} (k : dh_C G mX6_readSemicolon [.ref 1] h (fun v h1 => dh_J G mX6_readChild 48 [some (.ref 1), some (.ref 11), some (.int (x2)), some (.int (s0))] (v.toList ++ []) h1 Q)) : dh_J G mX6_readChild 43 [some (.ref 1), some (.ref 11), some (.int (x2)), none] [.int (s0)] h Q := by
  refine a_istore_n dX6_readChild_43 (by decide) rfl ?_
  refine a_aload_n dX6_readChild_44 rfl ?_
  exact a_callV0 dX6_readChild_45 (dh_Y_up cY_RX6_55 (by decide)) rfl rfl (Nat.le_of_ble_eq_true rfl) k
set_option maxRecDepth 100000 in
theorem w_X6_readChild_48 {G : dh_G} {x2 x3 : Int32} {h : dh_H} {Q : Option Value → dh_H → Prop} (k : ((¬ (h 1 4) = 0) → dh_J G mX6_readChild 61 [none, none, none, none] [] h Q) ∧ (((h 1 4) = 0) → dh_C G mX5_addChild [.ref 11, .int (x2), .int (x3)] h (fun v h1 => dh_J G mX6_readChild 61 [none, none, none, none] (v.toList ++ []) h1 Q))) : dh_J G mX6_readChild 48 [some (.ref 1), some (.ref 11), some (.int (x2)), some (.int (x3))] [] h Q := by
  refine a_aload_n dX6_readChild_48 rfl ?_
  refine a_getI dX6_readChild_49 fF_RX6_30 rfl rfl ?_
  refine a_if_ne 61 dX6_readChild_52 (by decide) (fun c1 => ?_) (fun c1 => ?_)
  · replace k := k.1 c1
    refine dh_drop 0 ?_
    refine dh_drop 1 ?_
    refine dh_drop 2 ?_
    refine dh_drop 3 ?_
    exact k
  · replace k := k.2 c1
    refine a_aload_n dX6_readChild_55 rfl ?_
    refine a_iload_n dX6_readChild_56 rfl ?_
    refine a_iload_n dX6_readChild_57 rfl ?_
    refine dh_drop 0 ?_
    refine dh_drop 1 ?_
    refine dh_drop 2 ?_
    refine dh_drop 3 ?_
    exact a_callV2 dX6_readChild_58 (dh_Y_up cY_RX6_77 (by decide)) rfl rfl (Nat.le_of_ble_eq_true rfl) k
set_option maxRecDepth 100000 in
theorem w_X6_readChild_61 {G : dh_G} {h : dh_H} {Q : Option Value → dh_H → Prop} (k : Q none h) : dh_J G mX6_readChild 61 [none, none, none, none] [] h Q := by
  exact a_vret dX6_readChild_61 rfl k
set_option maxRecDepth 100000 in
theorem w_X6_readDummy_0 {G : dh_G} {h : dh_H} {Q : Option Value → dh_H → Prop} (k : (((h 11 4) < (nI 6)) → dh_C G mX6_readNumber [.ref 1, .int (nI 0), .int (nI 9)] (dh_s h 1 2 ((h 1 2) + (nI 1))) (fun v h1 => dh_J G mX6_readDummy 36 [some (.ref 1), some (.ref 11), none, none, none, none] (v.toList ++ []) h1 Q)) ∧ ((¬ (h 11 4) < (nI 6)) → dh_C G mX6_fail [.ref 1, .int (nI 3), .int (h 1 2)] h (fun v h1 => dh_J G mX6_readDummy 18 [none, none, none, none, none, none] (v.toList ++ []) h1 Q))) : dh_J G mX6_readDummy 0 [some (.ref 1), some (.ref 11), none, none, none, none] [] h Q := by
  refine a_aload_n dX6_readDummy_0 rfl ?_
  refine a_getI dX6_readDummy_1 fF_RX6_80 rfl rfl ?_
  refine a_bipush dX6_readDummy_4 (v := nI 6) (by decide) ?_
  refine a_icmp_lt 19 dX6_readDummy_6 (by decide) (fun c1 => ?_) (fun c1 => ?_)
  · replace k := k.1 c1
    refine a_aload_n dX6_readDummy_19 rfl ?_
    refine a_dup dX6_readDummy_20 rfl ?_
    refine a_getI dX6_readDummy_21 fF_RX6_27 rfl rfl ?_
    refine a_iconst dX6_readDummy_24 (v := nI 1) (by decide) ?_
    refine a_iadd dX6_readDummy_25 ?_
    refine a_put dX6_readDummy_26 fF_RX6_27 rfl rfl rfl rfl ?_
    refine a_aload_n dX6_readDummy_29 rfl ?_
    refine a_iconst dX6_readDummy_30 (v := nI 0) (by decide) ?_
    refine a_bipush dX6_readDummy_31 (v := nI 9) (by decide) ?_
    exact a_callV2 dX6_readDummy_33 (dh_Y_up cY_RX6_51 (by decide)) rfl rfl (Nat.le_of_ble_eq_true rfl) k
  · replace k := k.2 c1
    refine a_aload_n dX6_readDummy_9 rfl ?_
    refine a_iconst dX6_readDummy_10 (v := nI 3) (by decide) ?_
    refine a_aload_n dX6_readDummy_11 rfl ?_
    refine a_getI dX6_readDummy_12 fF_RX6_27 rfl rfl ?_
    refine dh_drop 0 ?_
    refine dh_drop 1 ?_
    exact a_callV2 dX6_readDummy_15 (dh_Y_up cY_RX6_47 (by decide)) rfl rfl (Nat.le_of_ble_eq_true rfl) k
theorem e_X6_readDummy {G : dh_G} {h : dh_H} {Q : Option Value → dh_H → Prop} (k : (((h 11 4) < (nI 6)) → dh_C G mX6_readNumber [.ref 1, .int (nI 0), .int (nI 9)] (dh_s h 1 2 ((h 1 2) + (nI 1))) (fun v h1 => dh_J G mX6_readDummy 36 [some (.ref 1), some (.ref 11), none, none, none, none] (v.toList ++ []) h1 Q)) ∧ ((¬ (h 11 4) < (nI 6)) → dh_C G mX6_fail [.ref 1, .int (nI 3), .int (h 1 2)] h (fun v h1 => dh_J G mX6_readDummy 18 [none, none, none, none, none, none] (v.toList ++ []) h1 Q))) : dh_C G mX6_readDummy [.ref 1, .ref 11] h Q := dh_C_of [some (.ref 1), some (.ref 11), none, none, none, none] (by decide) (Nat.le_of_ble_eq_true rfl) rfl (w_X6_readDummy_0 k)
set_option maxRecDepth 100000 in
theorem w_X6_readDummy_18 {G : dh_G} {h : dh_H} {Q : Option Value → dh_H → Prop} (k : Q none h) : dh_J G mX6_readDummy 18 [none, none, none, none, none, none] [] h Q := by
  exact a_vret dX6_readDummy_18 rfl k
set_option maxRecDepth 100000 in
theorem w_X6_readDummy_36 {G : dh_G} {s0 : Int32} {h : dh_H} {Q : Option Value → dh_H → Prop} (k : dh_C G mX6_readNumber [.ref 1, .int (nI 0), .int (nI 3)] h (fun v h1 => dh_J G mX6_readDummy 43 [some (.ref 1), some (.ref 11), some (.int (s0)), none, none, none] (v.toList ++ []) h1 Q)) : dh_J G mX6_readDummy 36 [some (.ref 1), some (.ref 11), none, none, none, none] [.int (s0)] h Q := by
  refine a_istore_n dX6_readDummy_36 (by decide) rfl ?_
  refine a_aload_n dX6_readDummy_37 rfl ?_
  refine a_iconst dX6_readDummy_38 (v := nI 0) (by decide) ?_
  refine a_iconst dX6_readDummy_39 (v := nI 3) (by decide) ?_
  exact a_callV2 dX6_readDummy_40 (dh_Y_up cY_RX6_51 (by decide)) rfl rfl (Nat.le_of_ble_eq_true rfl) k
set_option maxRecDepth 100000 in
theorem w_X6_readDummy_43 {G : dh_G} {x2 s0 : Int32} {h : dh_H} {Q : Option Value → dh_H → Prop} (k : dh_C G mX6_readNumber [.ref 1, .int (nI 0), .int (nI 30)] h (fun v h1 => dh_J G mX6_readDummy 51 [some (.ref 1), some (.ref 11), some (.int (x2)), some (.int (s0)), none, none] (v.toList ++ []) h1 Q)) : dh_J G mX6_readDummy 43 [some (.ref 1), some (.ref 11), some (.int (x2)), none, none, none] [.int (s0)] h Q := by
  refine a_istore_n dX6_readDummy_43 (by decide) rfl ?_
  refine a_aload_n dX6_readDummy_44 rfl ?_
  refine a_iconst dX6_readDummy_45 (v := nI 0) (by decide) ?_
  refine a_bipush dX6_readDummy_46 (v := nI 30) (by decide) ?_
  exact a_callV2 dX6_readDummy_48 (dh_Y_up cY_RX6_51 (by decide)) rfl rfl (Nat.le_of_ble_eq_true rfl) k
set_option maxRecDepth 100000 in
theorem w_X6_readDummy_51 {G : dh_G} {x2 x3 s0 : Int32} {h : dh_H} {Q : Option Value → dh_H → Prop} (k : dh_C G mX6_readOwner [.ref 1, .ref 11] h (fun v h1 => dh_J G mX6_readDummy 58 [some (.ref 1), some (.ref 11), some (.int (x2)), some (.int (x3)), some (.int (s0)), none] (v.toList ++ []) h1 Q)) : dh_J G mX6_readDummy 51 [some (.ref 1), some (.ref 11), some (.int (x2)), some (.int (x3)), none, none] [.int (s0)] h Q := by
  refine a_istore dX6_readDummy_51 (by decide) rfl ?_
  refine a_aload_n dX6_readDummy_53 rfl ?_
  refine a_aload_n dX6_readDummy_54 rfl ?_
  exact a_callV1 dX6_readDummy_55 (dh_Y_up cY_RX6_83 (by decide)) rfl rfl (Nat.le_of_ble_eq_true rfl) k
set_option maxRecDepth 100000 in
theorem w_X6_readDummy_58 {G : dh_G} {x2 x3 x4 s0 : Int32} {h : dh_H} {Q : Option Value → dh_H → Prop} (k : dh_C G mX6_readSemicolon [.ref 1] h (fun v h1 => dh_J G mX6_readDummy 64 [some (.ref 1), some (.ref 11), some (.int (x2)), some (.int (x3)), some (.int (x4)), some (.int (s0))] (v.toList ++ []) h1 Q)) : dh_J G mX6_readDummy 58 [some (.ref 1), some (.ref 11), some (.int (x2)), some (.int (x3)), some (.int (x4)), none] [.int (s0)] h Q := by
  refine a_istore dX6_readDummy_58 (by decide) rfl ?_
  refine a_aload_n dX6_readDummy_60 rfl ?_
  exact a_callV0 dX6_readDummy_61 (dh_Y_up cY_RX6_55 (by decide)) rfl rfl (Nat.le_of_ble_eq_true rfl) k
set_option maxRecDepth 100000 in
theorem w_X6_readDummy_64 {G : dh_G} {x2 x3 x4 x5 : Int32} {h : dh_H} {Q : Option Value → dh_H → Prop} (k : ((¬ (h 1 4) = 0) → dh_J G mX6_readDummy 81 [none, none, none, none, none, none] [] h Q) ∧ (((h 1 4) = 0) → dh_C G mX5_addDummy [.ref 11, .int (x2), .int (x3), .int (x4), .int (x5)] h (fun v h1 => dh_J G mX6_readDummy 81 [none, none, none, none, none, none] (v.toList ++ []) h1 Q))) : dh_J G mX6_readDummy 64 [some (.ref 1), some (.ref 11), some (.int (x2)), some (.int (x3)), some (.int (x4)), some (.int (x5))] [] h Q := by
  refine a_aload_n dX6_readDummy_64 rfl ?_
  refine a_getI dX6_readDummy_65 fF_RX6_30 rfl rfl ?_
  refine a_if_ne 81 dX6_readDummy_68 (by decide) (fun c1 => ?_) (fun c1 => ?_)
  · replace k := k.1 c1
    refine dh_drop 0 ?_
    refine dh_drop 1 ?_
    refine dh_drop 2 ?_
    refine dh_drop 3 ?_
    refine dh_drop 4 ?_
    refine dh_drop 5 ?_
    exact k
  · replace k := k.2 c1
    refine a_aload_n dX6_readDummy_71 rfl ?_
    refine a_iload_n dX6_readDummy_72 rfl ?_
    refine a_iload_n dX6_readDummy_73 rfl ?_
    refine a_iload dX6_readDummy_74 rfl ?_
    refine a_iload dX6_readDummy_76 rfl ?_
    refine dh_drop 0 ?_
    refine dh_drop 1 ?_
    refine dh_drop 2 ?_
    refine dh_drop 3 ?_
    refine dh_drop 4 ?_
    refine dh_drop 5 ?_
    exact a_callV4 dX6_readDummy_78 (dh_Y_up cY_RX6_87 (by decide)) rfl rfl (Nat.le_of_ble_eq_true rfl) k
set_option maxRecDepth 100000 in
theorem w_X6_readDummy_81 {G : dh_G} {h : dh_H} {Q : Option Value → dh_H → Prop} (k : Q none h) : dh_J G mX6_readDummy 81 [none, none, none, none, none, none] [] h Q := by
  exact a_vret dX6_readDummy_81 rfl k
set_option maxRecDepth 100000 in
theorem w_X6_readOwner_0 {G : dh_G} {h : dh_H} {Q : Option Value → dh_H → Prop} (k : dh_C G mX6_readNumber [.ref 1, .int (nI 0), .int (nI 999)] h (fun v h1 => dh_J G mX6_readOwner 8 [some (.ref 1), some (.ref 11), none] (v.toList ++ []) h1 Q)) : dh_J G mX6_readOwner 0 [some (.ref 1), some (.ref 11), none] [] h Q := by
  refine a_aload_n dX6_readOwner_0 rfl ?_
  refine a_iconst dX6_readOwner_1 (v := nI 0) (by decide) ?_
  refine a_sipush dX6_readOwner_2 (v := nI 999) (by decide) ?_
  exact a_callV2 dX6_readOwner_5 (dh_Y_up cY_RX6_51 (by decide)) rfl rfl (Nat.le_of_ble_eq_true rfl) k
theorem e_X6_readOwner {G : dh_G} {h : dh_H} {Q : Option Value → dh_H → Prop} (k : dh_C G mX6_readNumber [.ref 1, .int (nI 0), .int (nI 999)] h (fun v h1 => dh_J G mX6_readOwner 8 [some (.ref 1), some (.ref 11), none] (v.toList ++ []) h1 Q)) : dh_C G mX6_readOwner [.ref 1, .ref 11] h Q := dh_C_of [some (.ref 1), some (.ref 11), none] (by decide) (Nat.le_of_ble_eq_true rfl) rfl (w_X6_readOwner_0 k)
set_option maxRecDepth 100000 in
theorem w_X6_readOwner_8 {G : dh_G} {s0 : Int32} {h : dh_H} {Q : Option Value → dh_H → Prop} (k : ((¬ (h 1 4) = 0) → Q (some (.int (s0))) h) ∧ (((h 1 4) = 0) → ((¬ s0 = (nI 9)) → dh_C G mX5_hasChild [.ref 11, .int (s0)] h (fun v h1 => dh_J G mX6_readOwner 29 [some (.ref 1), some (.ref 11), some (.int (s0))] (v.toList ++ []) h1 Q)) ∧ ((s0 = (nI 9)) → Q (some (.int (s0))) h))) : dh_J G mX6_readOwner 8 [some (.ref 1), some (.ref 11), none] [.int (s0)] h Q := by
  refine a_istore_n dX6_readOwner_8 (by decide) rfl ?_
  refine a_aload_n dX6_readOwner_9 rfl ?_
  refine a_getI dX6_readOwner_10 fF_RX6_30 rfl rfl ?_
  refine a_if_ne 22 dX6_readOwner_13 (by decide) (fun c1 => ?_) (fun c1 => ?_)
  · replace k := k.1 c1
    refine a_iload_n dX6_readOwner_22 rfl ?_
    exact a_iret dX6_readOwner_23 rfl k
  · replace k := k.2 c1
    refine a_iload_n dX6_readOwner_16 rfl ?_
    refine a_bipush dX6_readOwner_17 (v := nI 9) (by decide) ?_
    refine a_icmp_ne 24 dX6_readOwner_19 (by decide) (fun c2 => ?_) (fun c2 => ?_)
    · replace k := k.1 c2
      refine a_aload_n dX6_readOwner_24 rfl ?_
      refine a_iload_n dX6_readOwner_25 rfl ?_
      exact a_callV1 dX6_readOwner_26 (dh_Y_up cY_RX6_91 (by decide)) rfl rfl (Nat.le_of_ble_eq_true rfl) k
    · replace k := k.2 c2
      refine a_iload_n dX6_readOwner_22 rfl ?_
      exact a_iret dX6_readOwner_23 rfl k
set_option maxRecDepth 100000 in
theorem w_X6_readOwner_29 {G : dh_G} {x2 s0 : Int32} {h : dh_H} {Q : Option Value → dh_H → Prop} (k : ((¬ s0 = 0) → (vp_in x2 6) ∧ (((h 14 x2.toNatClampNeg) = (-1 : Int32)) → dh_J G mX6_readOwner 63 [none, none, some (.int (x2))] [] h Q) ∧ ((¬ (h 14 x2.toNatClampNeg) = (-1 : Int32)) → dh_C G mX6_fail [.ref 1, .int (nI 4), .int (h 1 3)] h (fun v h1 => dh_J G mX6_readOwner 63 [none, none, some (.int (x2))] (v.toList ++ []) h1 Q))) ∧ ((s0 = 0) → dh_C G mX6_fail [.ref 1, .int (nI 2), .int (h 1 3)] h (fun v h1 => dh_J G mX6_readOwner 41 [none, none, some (.int (x2))] (v.toList ++ []) h1 Q))) : dh_J G mX6_readOwner 29 [some (.ref 1), some (.ref 11), some (.int (x2))] [.int (s0)] h Q := by
  refine a_if_ne 44 dX6_readOwner_29 (by decide) (fun c1 => ?_) (fun c1 => ?_)
  · replace k := k.1 c1
    refine a_aload_n dX6_readOwner_44 rfl ?_
    refine a_getR dX6_readOwner_45 fF_RX6_98 rfl rfl ?_
    refine a_iload_n dX6_readOwner_48 rfl ?_
    obtain ⟨e2, k⟩ := k
    refine a_iald dX6_readOwner_49 rfl e2 ?_
    refine a_iconst dX6_readOwner_50 (v := (-1 : Int32)) (by decide) ?_
    refine a_icmp_eq 63 dX6_readOwner_51 (by decide) (fun c3 => ?_) (fun c3 => ?_)
    · replace k := k.1 c3
      refine dh_drop 0 ?_
      refine dh_drop 1 ?_
      exact k
    · replace k := k.2 c3
      refine a_aload_n dX6_readOwner_54 rfl ?_
      refine a_iconst dX6_readOwner_55 (v := nI 4) (by decide) ?_
      refine a_aload_n dX6_readOwner_56 rfl ?_
      refine a_getI dX6_readOwner_57 fF_RX6_95 rfl rfl ?_
      refine dh_drop 0 ?_
      refine dh_drop 1 ?_
      exact a_callV2 dX6_readOwner_60 (dh_Y_up cY_RX6_47 (by decide)) rfl rfl (Nat.le_of_ble_eq_true rfl) k
  · replace k := k.2 c1
    refine a_aload_n dX6_readOwner_32 rfl ?_
    refine a_iconst dX6_readOwner_33 (v := nI 2) (by decide) ?_
    refine a_aload_n dX6_readOwner_34 rfl ?_
    refine a_getI dX6_readOwner_35 fF_RX6_95 rfl rfl ?_
    refine dh_drop 0 ?_
    refine dh_drop 1 ?_
    exact a_callV2 dX6_readOwner_38 (dh_Y_up cY_RX6_47 (by decide)) rfl rfl (Nat.le_of_ble_eq_true rfl) k
set_option maxRecDepth 100000 in
theorem w_X6_readOwner_41 {G : dh_G} {x2 : Int32} {h : dh_H} {Q : Option Value → dh_H → Prop} (k : dh_J G mX6_readOwner 63 [none, none, some (.int (x2))] [] h Q) : dh_J G mX6_readOwner 41 [none, none, some (.int (x2))] [] h Q := by
  refine a_goto 63 dX6_readOwner_41 (by decide) ?_
  exact k
set_option maxRecDepth 100000 in
theorem w_X6_readOwner_63 {G : dh_G} {x2 : Int32} {h : dh_H} {Q : Option Value → dh_H → Prop} (k : Q (some (.int (x2))) h) : dh_J G mX6_readOwner 63 [none, none, some (.int (x2))] [] h Q := by
  refine a_iload_n dX6_readOwner_63 rfl ?_
  exact a_iret dX6_readOwner_64 rfl k
set_option maxRecDepth 100000 in
theorem w_X6_readNumber_0 {G : dh_G} {x1 x2 : Int32} {h : dh_H} {Q : Option Value → dh_H → Prop} (k : (((h 1 4) = 0) → dh_C G mX6_skipBlanks [.ref 1] h (fun v h1 => dh_J G mX6_readNumber 13 [some (.ref 1), some (.int (x1)), some (.int (x2)), none, none, none] (v.toList ++ []) h1 Q)) ∧ ((¬ (h 1 4) = 0) → Q (some (.int (nI 0))) h)) : dh_J G mX6_readNumber 0 [some (.ref 1), some (.int (x1)), some (.int (x2)), none, none, none] [] h Q := by
  refine a_aload_n dX6_readNumber_0 rfl ?_
  refine a_getI dX6_readNumber_1 fF_RX6_30 rfl rfl ?_
  refine a_if_eq 9 dX6_readNumber_4 (by decide) (fun c1 => ?_) (fun c1 => ?_)
  · replace k := k.1 c1
    refine a_aload_n dX6_readNumber_9 rfl ?_
    exact a_callV0 dX6_readNumber_10 (dh_Y_up cY_RX6_33 (by decide)) rfl rfl (Nat.le_of_ble_eq_true rfl) k
  · replace k := k.2 c1
    refine a_iconst dX6_readNumber_7 (v := nI 0) (by decide) ?_
    exact a_iret dX6_readNumber_8 rfl k
theorem e_X6_readNumber {G : dh_G} {x1 x2 : Int32} {h : dh_H} {Q : Option Value → dh_H → Prop} (k : (((h 1 4) = 0) → dh_C G mX6_skipBlanks [.ref 1] h (fun v h1 => dh_J G mX6_readNumber 13 [some (.ref 1), some (.int (x1)), some (.int (x2)), none, none, none] (v.toList ++ []) h1 Q)) ∧ ((¬ (h 1 4) = 0) → Q (some (.int (nI 0))) h)) : dh_C G mX6_readNumber [.ref 1, .int (x1), .int (x2)] h Q := dh_C_of [some (.ref 1), some (.int (x1)), some (.int (x2)), none, none, none] (by decide) (Nat.le_of_ble_eq_true rfl) rfl (w_X6_readNumber_0 k)
set_option maxRecDepth 100000 in
theorem w_X6_readNumber_13 {G : dh_G} {x1 x2 : Int32} {h : dh_H} {Q : Option Value → dh_H → Prop} (k : dh_C G mX6_letterHere [.ref 1] h (fun v h1 => dh_J G mX6_readNumber 17 [some (.ref 1), some (.int (x1)), some (.int (x2)), none, none, none] (v.toList ++ []) h1 Q)) : dh_J G mX6_readNumber 13 [some (.ref 1), some (.int (x1)), some (.int (x2)), none, none, none] [] h Q := by
  refine a_aload_n dX6_readNumber_13 rfl ?_
  exact a_callV0 dX6_readNumber_14 (dh_Y_up cY_RX6_43 (by decide)) rfl rfl (Nat.le_of_ble_eq_true rfl) k
set_option maxRecDepth 100000 in
theorem w_X6_readNumber_17 {G : dh_G} {x1 x2 s0 : Int32} {h : dh_H} {Q : Option Value → dh_H → Prop} (k : dh_C G mX6_isFigure [.int (s0)] h (fun v h1 => dh_J G mX6_readNumber 20 [some (.ref 1), some (.int (x1)), some (.int (x2)), none, none, none] (v.toList ++ []) h1 Q)) : dh_J G mX6_readNumber 17 [some (.ref 1), some (.int (x1)), some (.int (x2)), none, none, none] [.int (s0)] h Q := by
  exact a_callS1 dX6_readNumber_17 (dh_Y_up cY_RX6_101 (by decide)) (Nat.le_of_ble_eq_true rfl) k
set_option maxRecDepth 100000 in
theorem w_X6_readNumber_20 {G : dh_G} {x1 x2 s0 : Int32} {h : dh_H} {Q : Option Value → dh_H → Prop} (k : ((¬ s0 = 0) → dh_J G mX6_readNumber 50 [some (.ref 1), some (.int (x1)), some (.int (x2)), some (.int (nI 0)), some (.int (nI 0)), some (.int (nI 0))] [] (dh_s h 1 3 (h 1 2)) Q) ∧ ((s0 = 0) → dh_C G mX6_fail [.ref 1, .int (nI 1), .int (h 1 2)] h (fun v h1 => dh_J G mX6_readNumber 32 [none, none, none, none, none, none] (v.toList ++ []) h1 Q))) : dh_J G mX6_readNumber 20 [some (.ref 1), some (.int (x1)), some (.int (x2)), none, none, none] [.int (s0)] h Q := by
  refine a_if_ne 34 dX6_readNumber_20 (by decide) (fun c1 => ?_) (fun c1 => ?_)
  · replace k := k.1 c1
    refine a_aload_n dX6_readNumber_34 rfl ?_
    refine a_aload_n dX6_readNumber_35 rfl ?_
    refine a_getI dX6_readNumber_36 fF_RX6_27 rfl rfl ?_
    refine a_put dX6_readNumber_39 fF_RX6_95 rfl rfl rfl rfl ?_
    refine a_iconst dX6_readNumber_42 (v := nI 0) (by decide) ?_
    refine a_istore_n dX6_readNumber_43 (by decide) rfl ?_
    refine a_iconst dX6_readNumber_44 (v := nI 0) (by decide) ?_
    refine a_istore dX6_readNumber_45 (by decide) rfl ?_
    refine a_iconst dX6_readNumber_47 (v := nI 0) (by decide) ?_
    refine a_istore dX6_readNumber_48 (by decide) rfl ?_
    exact k
  · replace k := k.2 c1
    refine a_aload_n dX6_readNumber_23 rfl ?_
    refine a_iconst dX6_readNumber_24 (v := nI 1) (by decide) ?_
    refine a_aload_n dX6_readNumber_25 rfl ?_
    refine a_getI dX6_readNumber_26 fF_RX6_27 rfl rfl ?_
    refine dh_drop 0 ?_
    refine dh_drop 1 ?_
    refine dh_drop 2 ?_
    exact a_callV2 dX6_readNumber_29 (dh_Y_up cY_RX6_47 (by decide)) rfl rfl (Nat.le_of_ble_eq_true rfl) k
set_option maxRecDepth 100000 in
theorem w_X6_readNumber_32 {G : dh_G} {h : dh_H} {Q : Option Value → dh_H → Prop} (k : Q (some (.int (nI 0))) h) : dh_J G mX6_readNumber 32 [none, none, none, none, none, none] [] h Q := by
  refine a_iconst dX6_readNumber_32 (v := nI 0) (by decide) ?_
  exact a_iret dX6_readNumber_33 rfl k
set_option maxRecDepth 100000 in
theorem w_X6_readNumber_50 {G : dh_G} {x1 x2 x3 x4 x5 : Int32} {h : dh_H} {Q : Option Value → dh_H → Prop} (k : (((nI 240) ≤ x5) → (((nI 3) < x4) → dh_C G mX6_fail [.ref 1, .int (nI 2), .int (h 1 3)] h (fun v h1 => dh_J G mX6_readNumber 131 [none, none, none, some (.int (x3)), none, none] (v.toList ++ []) h1 Q)) ∧ ((¬ (nI 3) < x4) → ((x3 < x1) → dh_C G mX6_fail [.ref 1, .int (nI 2), .int (h 1 3)] h (fun v h1 => dh_J G mX6_readNumber 131 [none, none, none, some (.int (x3)), none, none] (v.toList ++ []) h1 Q)) ∧ ((¬ x3 < x1) → ((x3 ≤ x2) → dh_J G mX6_readNumber 131 [none, none, none, some (.int (x3)), none, none] [] h Q) ∧ ((¬ x3 ≤ x2) → dh_C G mX6_fail [.ref 1, .int (nI 2), .int (h 1 3)] h (fun v h1 => dh_J G mX6_readNumber 131 [none, none, none, some (.int (x3)), none, none] (v.toList ++ []) h1 Q))))) ∧ ((¬ (nI 240) ≤ x5) → dh_C G mX6_letterHere [.ref 1] h (fun v h1 => dh_J G mX6_readNumber 62 [some (.ref 1), some (.int (x1)), some (.int (x2)), some (.int (x3)), some (.int (x4)), some (.int (x5))] (v.toList ++ []) h1 Q))) : dh_J G mX6_readNumber 50 [some (.ref 1), some (.int (x1)), some (.int (x2)), some (.int (x3)), some (.int (x4)), some (.int (x5))] [] h Q := by
  refine a_iload dX6_readNumber_50 rfl ?_
  refine a_sipush dX6_readNumber_52 (v := nI 240) (by decide) ?_
  refine a_icmp_ge 106 dX6_readNumber_55 (by decide) (fun c1 => ?_) (fun c1 => ?_)
  · replace k := k.1 c1
    refine a_iload dX6_readNumber_106 rfl ?_
    refine a_iconst dX6_readNumber_108 (v := nI 3) (by decide) ?_
    refine a_icmp_gt 122 dX6_readNumber_109 (by decide) (fun c2 => ?_) (fun c2 => ?_)
    · replace k := k.1 c2
      refine a_aload_n dX6_readNumber_122 rfl ?_
      refine a_iconst dX6_readNumber_123 (v := nI 2) (by decide) ?_
      refine a_aload_n dX6_readNumber_124 rfl ?_
      refine a_getI dX6_readNumber_125 fF_RX6_95 rfl rfl ?_
      refine dh_drop 0 ?_
      refine dh_drop 1 ?_
      refine dh_drop 2 ?_
      refine dh_drop 4 ?_
      refine dh_drop 5 ?_
      exact a_callV2 dX6_readNumber_128 (dh_Y_up cY_RX6_47 (by decide)) rfl rfl (Nat.le_of_ble_eq_true rfl) k
    · replace k := k.2 c2
      refine a_iload_n dX6_readNumber_112 rfl ?_
      refine a_iload_n dX6_readNumber_113 rfl ?_
      refine a_icmp_lt 122 dX6_readNumber_114 (by decide) (fun c3 => ?_) (fun c3 => ?_)
      · replace k := k.1 c3
        refine a_aload_n dX6_readNumber_122 rfl ?_
        refine a_iconst dX6_readNumber_123 (v := nI 2) (by decide) ?_
        refine a_aload_n dX6_readNumber_124 rfl ?_
        refine a_getI dX6_readNumber_125 fF_RX6_95 rfl rfl ?_
        refine dh_drop 0 ?_
        refine dh_drop 1 ?_
        refine dh_drop 2 ?_
        refine dh_drop 4 ?_
        refine dh_drop 5 ?_
        exact a_callV2 dX6_readNumber_128 (dh_Y_up cY_RX6_47 (by decide)) rfl rfl (Nat.le_of_ble_eq_true rfl) k
      · replace k := k.2 c3
        refine a_iload_n dX6_readNumber_117 rfl ?_
        refine a_iload_n dX6_readNumber_118 rfl ?_
        refine a_icmp_le 131 dX6_readNumber_119 (by decide) (fun c4 => ?_) (fun c4 => ?_)
        · replace k := k.1 c4
          refine dh_drop 0 ?_
          refine dh_drop 1 ?_
          refine dh_drop 2 ?_
          refine dh_drop 4 ?_
          refine dh_drop 5 ?_
          exact k
        · replace k := k.2 c4
          refine a_aload_n dX6_readNumber_122 rfl ?_
          refine a_iconst dX6_readNumber_123 (v := nI 2) (by decide) ?_
          refine a_aload_n dX6_readNumber_124 rfl ?_
          refine a_getI dX6_readNumber_125 fF_RX6_95 rfl rfl ?_
          refine dh_drop 0 ?_
          refine dh_drop 1 ?_
          refine dh_drop 2 ?_
          refine dh_drop 4 ?_
          refine dh_drop 5 ?_
          exact a_callV2 dX6_readNumber_128 (dh_Y_up cY_RX6_47 (by decide)) rfl rfl (Nat.le_of_ble_eq_true rfl) k
  · replace k := k.2 c1
    refine a_aload_n dX6_readNumber_58 rfl ?_
    exact a_callV0 dX6_readNumber_59 (dh_Y_up cY_RX6_43 (by decide)) rfl rfl (Nat.le_of_ble_eq_true rfl) k
set_option maxRecDepth 100000 in
theorem w_X6_readNumber_62 {G : dh_G} {x1 x2 x3 x4 x5 s0 : Int32} {h : dh_H} {Q : Option Value → dh_H → Prop} (k : dh_C G mX6_isFigure [.int (s0)] h (fun v h1 => dh_J G mX6_readNumber 65 [some (.ref 1), some (.int (x1)), some (.int (x2)), some (.int (x3)), some (.int (x4)), some (.int (x5))] (v.toList ++ []) h1 Q)) : dh_J G mX6_readNumber 62 [some (.ref 1), some (.int (x1)), some (.int (x2)), some (.int (x3)), some (.int (x4)), some (.int (x5))] [.int (s0)] h Q := by
  exact a_callS1 dX6_readNumber_62 (dh_Y_up cY_RX6_101 (by decide)) (Nat.le_of_ble_eq_true rfl) k
set_option maxRecDepth 100000 in
theorem w_X6_readNumber_65 {G : dh_G} {x1 x2 x3 x4 x5 s0 : Int32} {h : dh_H} {Q : Option Value → dh_H → Prop} (k : ((s0 = 0) → (((nI 3) < x4) → dh_C G mX6_fail [.ref 1, .int (nI 2), .int (h 1 3)] h (fun v h1 => dh_J G mX6_readNumber 131 [none, none, none, some (.int (x3)), none, none] (v.toList ++ []) h1 Q)) ∧ ((¬ (nI 3) < x4) → ((x3 < x1) → dh_C G mX6_fail [.ref 1, .int (nI 2), .int (h 1 3)] h (fun v h1 => dh_J G mX6_readNumber 131 [none, none, none, some (.int (x3)), none, none] (v.toList ++ []) h1 Q)) ∧ ((¬ x3 < x1) → ((x3 ≤ x2) → dh_J G mX6_readNumber 131 [none, none, none, some (.int (x3)), none, none] [] h Q) ∧ ((¬ x3 ≤ x2) → dh_C G mX6_fail [.ref 1, .int (nI 2), .int (h 1 3)] h (fun v h1 => dh_J G mX6_readNumber 131 [none, none, none, some (.int (x3)), none, none] (v.toList ++ []) h1 Q))))) ∧ ((¬ s0 = 0) → (((nI 3) < (x4 + (nI 1))) → dh_J G mX6_readNumber 50 [some (.ref 1), some (.int (x1)), some (.int (x2)), some (.int (x3)), some (.int (x4 + (nI 1))), some (.int (x5 + (nI 1)))] [] (dh_s h 1 2 ((h 1 2) + (nI 1))) Q) ∧ ((¬ (nI 3) < (x4 + (nI 1))) → dh_C G mX6_letterHere [.ref 1] h (fun v h1 => dh_J G mX6_readNumber 85 [some (.ref 1), some (.int (x1)), some (.int (x2)), none, some (.int (x4 + (nI 1))), some (.int (x5))] (v.toList ++ [.int ((nI 10) * x3)]) h1 Q)))) : dh_J G mX6_readNumber 65 [some (.ref 1), some (.int (x1)), some (.int (x2)), some (.int (x3)), some (.int (x4)), some (.int (x5))] [.int (s0)] h Q := by
  refine a_if_eq 106 dX6_readNumber_65 (by decide) (fun c1 => ?_) (fun c1 => ?_)
  · replace k := k.1 c1
    refine a_iload dX6_readNumber_106 rfl ?_
    refine a_iconst dX6_readNumber_108 (v := nI 3) (by decide) ?_
    refine a_icmp_gt 122 dX6_readNumber_109 (by decide) (fun c2 => ?_) (fun c2 => ?_)
    · replace k := k.1 c2
      refine a_aload_n dX6_readNumber_122 rfl ?_
      refine a_iconst dX6_readNumber_123 (v := nI 2) (by decide) ?_
      refine a_aload_n dX6_readNumber_124 rfl ?_
      refine a_getI dX6_readNumber_125 fF_RX6_95 rfl rfl ?_
      refine dh_drop 0 ?_
      refine dh_drop 1 ?_
      refine dh_drop 2 ?_
      refine dh_drop 4 ?_
      refine dh_drop 5 ?_
      exact a_callV2 dX6_readNumber_128 (dh_Y_up cY_RX6_47 (by decide)) rfl rfl (Nat.le_of_ble_eq_true rfl) k
    · replace k := k.2 c2
      refine a_iload_n dX6_readNumber_112 rfl ?_
      refine a_iload_n dX6_readNumber_113 rfl ?_
      refine a_icmp_lt 122 dX6_readNumber_114 (by decide) (fun c3 => ?_) (fun c3 => ?_)
      · replace k := k.1 c3
        refine a_aload_n dX6_readNumber_122 rfl ?_
        refine a_iconst dX6_readNumber_123 (v := nI 2) (by decide) ?_
        refine a_aload_n dX6_readNumber_124 rfl ?_
        refine a_getI dX6_readNumber_125 fF_RX6_95 rfl rfl ?_
        refine dh_drop 0 ?_
        refine dh_drop 1 ?_
        refine dh_drop 2 ?_
        refine dh_drop 4 ?_
        refine dh_drop 5 ?_
        exact a_callV2 dX6_readNumber_128 (dh_Y_up cY_RX6_47 (by decide)) rfl rfl (Nat.le_of_ble_eq_true rfl) k
      · replace k := k.2 c3
        refine a_iload_n dX6_readNumber_117 rfl ?_
        refine a_iload_n dX6_readNumber_118 rfl ?_
        refine a_icmp_le 131 dX6_readNumber_119 (by decide) (fun c4 => ?_) (fun c4 => ?_)
        · replace k := k.1 c4
          refine dh_drop 0 ?_
          refine dh_drop 1 ?_
          refine dh_drop 2 ?_
          refine dh_drop 4 ?_
          refine dh_drop 5 ?_
          exact k
        · replace k := k.2 c4
          refine a_aload_n dX6_readNumber_122 rfl ?_
          refine a_iconst dX6_readNumber_123 (v := nI 2) (by decide) ?_
          refine a_aload_n dX6_readNumber_124 rfl ?_
          refine a_getI dX6_readNumber_125 fF_RX6_95 rfl rfl ?_
          refine dh_drop 0 ?_
          refine dh_drop 1 ?_
          refine dh_drop 2 ?_
          refine dh_drop 4 ?_
          refine dh_drop 5 ?_
          exact a_callV2 dX6_readNumber_128 (dh_Y_up cY_RX6_47 (by decide)) rfl rfl (Nat.le_of_ble_eq_true rfl) k
  · replace k := k.2 c1
    refine a_iinc dX6_readNumber_68 (v := x4 + (nI 1)) rfl (by rfl) (by decide) rfl ?_
    refine a_iload dX6_readNumber_71 rfl ?_
    refine a_iconst dX6_readNumber_73 (v := nI 3) (by decide) ?_
    refine a_icmp_gt 90 dX6_readNumber_74 (by decide) (fun c5 => ?_) (fun c5 => ?_)
    · replace k := k.1 c5
      refine a_aload_n dX6_readNumber_90 rfl ?_
      refine a_dup dX6_readNumber_91 rfl ?_
      refine a_getI dX6_readNumber_92 fF_RX6_27 rfl rfl ?_
      refine a_iconst dX6_readNumber_95 (v := nI 1) (by decide) ?_
      refine a_iadd dX6_readNumber_96 ?_
      refine a_put dX6_readNumber_97 fF_RX6_27 rfl rfl rfl rfl ?_
      refine a_iinc dX6_readNumber_100 (v := x5 + (nI 1)) rfl (by rfl) (by decide) rfl ?_
      refine a_goto 50 dX6_readNumber_103 (by decide) ?_
      exact k
    · replace k := k.2 c5
      refine a_bipush dX6_readNumber_77 (v := nI 10) (by decide) ?_
      refine a_iload_n dX6_readNumber_79 rfl ?_
      refine a_imul dX6_readNumber_80 ?_
      refine a_aload_n dX6_readNumber_81 rfl ?_
      refine dh_drop 3 ?_
      exact a_callV0 dX6_readNumber_82 (dh_Y_up cY_RX6_43 (by decide)) rfl rfl (Nat.le_of_ble_eq_true rfl) k
set_option maxRecDepth 100000 in
theorem w_X6_readNumber_85 {G : dh_G} {x1 x2 x4 x5 s0 s1 : Int32} {h : dh_H} {Q : Option Value → dh_H → Prop} (k : dh_J G mX6_readNumber 50 [some (.ref 1), some (.int (x1)), some (.int (x2)), some (.int ((s0 + s1) - (nI 48))), some (.int (x4)), some (.int (x5 + (nI 1)))] [] (dh_s h 1 2 ((h 1 2) + (nI 1))) Q) : dh_J G mX6_readNumber 85 [some (.ref 1), some (.int (x1)), some (.int (x2)), none, some (.int (x4)), some (.int (x5))] [.int (s1), .int (s0)] h Q := by
  refine a_iadd dX6_readNumber_85 ?_
  refine a_bipush dX6_readNumber_86 (v := nI 48) (by decide) ?_
  refine a_isub dX6_readNumber_88 ?_
  refine a_istore_n dX6_readNumber_89 (by decide) rfl ?_
  refine a_aload_n dX6_readNumber_90 rfl ?_
  refine a_dup dX6_readNumber_91 rfl ?_
  refine a_getI dX6_readNumber_92 fF_RX6_27 rfl rfl ?_
  refine a_iconst dX6_readNumber_95 (v := nI 1) (by decide) ?_
  refine a_iadd dX6_readNumber_96 ?_
  refine a_put dX6_readNumber_97 fF_RX6_27 rfl rfl rfl rfl ?_
  refine a_iinc dX6_readNumber_100 (v := x5 + (nI 1)) rfl (by rfl) (by decide) rfl ?_
  refine a_goto 50 dX6_readNumber_103 (by decide) ?_
  exact k
set_option maxRecDepth 100000 in
theorem w_X6_readNumber_131 {G : dh_G} {x3 : Int32} {h : dh_H} {Q : Option Value → dh_H → Prop} (k : Q (some (.int (x3))) h) : dh_J G mX6_readNumber 131 [none, none, none, some (.int (x3)), none, none] [] h Q := by
  refine a_iload_n dX6_readNumber_131 rfl ?_
  exact a_iret dX6_readNumber_132 rfl k
set_option maxRecDepth 100000 in
theorem w_X6_readSemicolon_0 {G : dh_G} {h : dh_H} {Q : Option Value → dh_H → Prop} (k : (((h 1 4) = 0) → dh_C G mX6_skipBlanks [.ref 1] h (fun v h1 => dh_J G mX6_readSemicolon 12 [some (.ref 1)] (v.toList ++ []) h1 Q)) ∧ ((¬ (h 1 4) = 0) → Q none h)) : dh_J G mX6_readSemicolon 0 [some (.ref 1)] [] h Q := by
  refine a_aload_n dX6_readSemicolon_0 rfl ?_
  refine a_getI dX6_readSemicolon_1 fF_RX6_30 rfl rfl ?_
  refine a_if_eq 8 dX6_readSemicolon_4 (by decide) (fun c1 => ?_) (fun c1 => ?_)
  · replace k := k.1 c1
    refine a_aload_n dX6_readSemicolon_8 rfl ?_
    exact a_callV0 dX6_readSemicolon_9 (dh_Y_up cY_RX6_33 (by decide)) rfl rfl (Nat.le_of_ble_eq_true rfl) k
  · replace k := k.2 c1
    exact a_vret dX6_readSemicolon_7 rfl k
theorem e_X6_readSemicolon {G : dh_G} {h : dh_H} {Q : Option Value → dh_H → Prop} (k : (((h 1 4) = 0) → dh_C G mX6_skipBlanks [.ref 1] h (fun v h1 => dh_J G mX6_readSemicolon 12 [some (.ref 1)] (v.toList ++ []) h1 Q)) ∧ ((¬ (h 1 4) = 0) → Q none h)) : dh_C G mX6_readSemicolon [.ref 1] h Q := dh_C_of [some (.ref 1)] (by decide) (Nat.le_of_ble_eq_true rfl) rfl (w_X6_readSemicolon_0 k)
set_option maxRecDepth 100000 in
theorem w_X6_readSemicolon_12 {G : dh_G} {h : dh_H} {Q : Option Value → dh_H → Prop} (k : dh_C G mX6_letterHere [.ref 1] h (fun v h1 => dh_J G mX6_readSemicolon 16 [some (.ref 1)] (v.toList ++ []) h1 Q)) : dh_J G mX6_readSemicolon 12 [some (.ref 1)] [] h Q := by
  refine a_aload_n dX6_readSemicolon_12 rfl ?_
  exact a_callV0 dX6_readSemicolon_13 (dh_Y_up cY_RX6_43 (by decide)) rfl rfl (Nat.le_of_ble_eq_true rfl) k
set_option maxRecDepth 100000 in
theorem w_X6_readSemicolon_16 {G : dh_G} {s0 : Int32} {h : dh_H} {Q : Option Value → dh_H → Prop} (k : ((s0 = (nI 59)) → Q none (dh_s h 1 2 ((h 1 2) + (nI 1)))) ∧ ((¬ s0 = (nI 59)) → dh_C G mX6_fail [.ref 1, .int (nI 1), .int (h 1 2)] h (fun v h1 => dh_J G mX6_readSemicolon 30 [none] (v.toList ++ []) h1 Q))) : dh_J G mX6_readSemicolon 16 [some (.ref 1)] [.int (s0)] h Q := by
  refine a_bipush dX6_readSemicolon_16 (v := nI 59) (by decide) ?_
  refine a_icmp_eq 31 dX6_readSemicolon_18 (by decide) (fun c1 => ?_) (fun c1 => ?_)
  · replace k := k.1 c1
    refine a_aload_n dX6_readSemicolon_31 rfl ?_
    refine a_dup dX6_readSemicolon_32 rfl ?_
    refine a_getI dX6_readSemicolon_33 fF_RX6_27 rfl rfl ?_
    refine a_iconst dX6_readSemicolon_36 (v := nI 1) (by decide) ?_
    refine a_iadd dX6_readSemicolon_37 ?_
    refine a_put dX6_readSemicolon_38 fF_RX6_27 rfl rfl rfl rfl ?_
    exact a_vret dX6_readSemicolon_41 rfl k
  · replace k := k.2 c1
    refine a_aload_n dX6_readSemicolon_21 rfl ?_
    refine a_iconst dX6_readSemicolon_22 (v := nI 1) (by decide) ?_
    refine a_aload_n dX6_readSemicolon_23 rfl ?_
    refine a_getI dX6_readSemicolon_24 fF_RX6_27 rfl rfl ?_
    refine dh_drop 0 ?_
    exact a_callV2 dX6_readSemicolon_27 (dh_Y_up cY_RX6_47 (by decide)) rfl rfl (Nat.le_of_ble_eq_true rfl) k
set_option maxRecDepth 100000 in
theorem w_X6_readSemicolon_30 {G : dh_G} {h : dh_H} {Q : Option Value → dh_H → Prop} (k : Q none h) : dh_J G mX6_readSemicolon 30 [none] [] h Q := by
  exact a_vret dX6_readSemicolon_30 rfl k
set_option maxRecDepth 100000 in
theorem w_X6_skipBlanks_0 {G : dh_G} {h : dh_H} {Q : Option Value → dh_H → Prop} (k : (((h 1 2) < 0) → Q none h) ∧ ((¬ (h 1 2) < 0) → (((h 1 1) ≤ (h 1 2)) → Q none h) ∧ ((¬ (h 1 1) ≤ (h 1 2)) → (((nI 240) ≤ (h 1 2)) → Q none h) ∧ ((¬ (nI 240) ≤ (h 1 2)) → (vp_in (h 1 2) 240) ∧ ((¬ (h 2 (h 1 2).toNatClampNeg) = (nI 32)) → Q none h) ∧ (((h 2 (h 1 2).toNatClampNeg) = (nI 32)) → dh_J G mX6_skipBlanks 0 [some (.ref 1)] [] (dh_s h 1 2 ((h 1 2) + (nI 1))) Q))))) : dh_J G mX6_skipBlanks 0 [some (.ref 1)] [] h Q := by
  refine a_aload_n dX6_skipBlanks_0 rfl ?_
  refine a_getI dX6_skipBlanks_1 fF_RX6_27 rfl rfl ?_
  refine a_if_lt 55 dX6_skipBlanks_4 (by decide) (fun c1 => ?_) (fun c1 => ?_)
  · replace k := k.1 c1
    exact a_vret dX6_skipBlanks_55 rfl k
  · replace k := k.2 c1
    refine a_aload_n dX6_skipBlanks_7 rfl ?_
    refine a_getI dX6_skipBlanks_8 fF_RX6_27 rfl rfl ?_
    refine a_aload_n dX6_skipBlanks_11 rfl ?_
    refine a_getI dX6_skipBlanks_12 fF_RX6_19 rfl rfl ?_
    refine a_icmp_ge 55 dX6_skipBlanks_15 (by decide) (fun c2 => ?_) (fun c2 => ?_)
    · replace k := k.1 c2
      exact a_vret dX6_skipBlanks_55 rfl k
    · replace k := k.2 c2
      refine a_aload_n dX6_skipBlanks_18 rfl ?_
      refine a_getI dX6_skipBlanks_19 fF_RX6_27 rfl rfl ?_
      refine a_sipush dX6_skipBlanks_22 (v := nI 240) (by decide) ?_
      refine a_icmp_ge 55 dX6_skipBlanks_25 (by decide) (fun c3 => ?_) (fun c3 => ?_)
      · replace k := k.1 c3
        exact a_vret dX6_skipBlanks_55 rfl k
      · replace k := k.2 c3
        refine a_aload_n dX6_skipBlanks_28 rfl ?_
        refine a_getR dX6_skipBlanks_29 fF_RX6_9 rfl rfl ?_
        refine a_aload_n dX6_skipBlanks_32 rfl ?_
        refine a_getI dX6_skipBlanks_33 fF_RX6_27 rfl rfl ?_
        obtain ⟨e4, k⟩ := k
        refine a_iald dX6_skipBlanks_36 rfl e4 ?_
        refine a_bipush dX6_skipBlanks_37 (v := nI 32) (by decide) ?_
        refine a_icmp_ne 55 dX6_skipBlanks_39 (by decide) (fun c5 => ?_) (fun c5 => ?_)
        · replace k := k.1 c5
          exact a_vret dX6_skipBlanks_55 rfl k
        · replace k := k.2 c5
          refine a_aload_n dX6_skipBlanks_42 rfl ?_
          refine a_dup dX6_skipBlanks_43 rfl ?_
          refine a_getI dX6_skipBlanks_44 fF_RX6_27 rfl rfl ?_
          refine a_iconst dX6_skipBlanks_47 (v := nI 1) (by decide) ?_
          refine a_iadd dX6_skipBlanks_48 ?_
          refine a_put dX6_skipBlanks_49 fF_RX6_27 rfl rfl rfl rfl ?_
          refine a_goto 0 dX6_skipBlanks_52 (by decide) ?_
          exact k
theorem e_X6_skipBlanks {G : dh_G} {h : dh_H} {Q : Option Value → dh_H → Prop} (k : (((h 1 2) < 0) → Q none h) ∧ ((¬ (h 1 2) < 0) → (((h 1 1) ≤ (h 1 2)) → Q none h) ∧ ((¬ (h 1 1) ≤ (h 1 2)) → (((nI 240) ≤ (h 1 2)) → Q none h) ∧ ((¬ (nI 240) ≤ (h 1 2)) → (vp_in (h 1 2) 240) ∧ ((¬ (h 2 (h 1 2).toNatClampNeg) = (nI 32)) → Q none h) ∧ (((h 2 (h 1 2).toNatClampNeg) = (nI 32)) → dh_J G mX6_skipBlanks 0 [some (.ref 1)] [] (dh_s h 1 2 ((h 1 2) + (nI 1))) Q))))) : dh_C G mX6_skipBlanks [.ref 1] h Q := dh_C_of [some (.ref 1)] (by decide) (Nat.le_of_ble_eq_true rfl) rfl (w_X6_skipBlanks_0 k)
set_option maxRecDepth 100000 in
theorem w_X6_letterHere_0 {G : dh_G} {h : dh_H} {Q : Option Value → dh_H → Prop} (k : (((h 1 2) < 0) → Q (some (.int ((-1 : Int32)))) h) ∧ ((¬ (h 1 2) < 0) → (((h 1 1) ≤ (h 1 2)) → Q (some (.int ((-1 : Int32)))) h) ∧ ((¬ (h 1 1) ≤ (h 1 2)) → (((nI 240) ≤ (h 1 2)) → Q (some (.int ((-1 : Int32)))) h) ∧ ((¬ (nI 240) ≤ (h 1 2)) → (vp_in (h 1 2) 240) ∧ Q (some (.int (h 2 (h 1 2).toNatClampNeg))) h)))) : dh_J G mX6_letterHere 0 [some (.ref 1)] [] h Q := by
  refine a_aload_n dX6_letterHere_0 rfl ?_
  refine a_getI dX6_letterHere_1 fF_RX6_27 rfl rfl ?_
  refine a_if_lt 40 dX6_letterHere_4 (by decide) (fun c1 => ?_) (fun c1 => ?_)
  · replace k := k.1 c1
    refine a_iconst dX6_letterHere_40 (v := (-1 : Int32)) (by decide) ?_
    exact a_iret dX6_letterHere_41 rfl k
  · replace k := k.2 c1
    refine a_aload_n dX6_letterHere_7 rfl ?_
    refine a_getI dX6_letterHere_8 fF_RX6_27 rfl rfl ?_
    refine a_aload_n dX6_letterHere_11 rfl ?_
    refine a_getI dX6_letterHere_12 fF_RX6_19 rfl rfl ?_
    refine a_icmp_ge 40 dX6_letterHere_15 (by decide) (fun c2 => ?_) (fun c2 => ?_)
    · replace k := k.1 c2
      refine a_iconst dX6_letterHere_40 (v := (-1 : Int32)) (by decide) ?_
      exact a_iret dX6_letterHere_41 rfl k
    · replace k := k.2 c2
      refine a_aload_n dX6_letterHere_18 rfl ?_
      refine a_getI dX6_letterHere_19 fF_RX6_27 rfl rfl ?_
      refine a_sipush dX6_letterHere_22 (v := nI 240) (by decide) ?_
      refine a_icmp_ge 40 dX6_letterHere_25 (by decide) (fun c3 => ?_) (fun c3 => ?_)
      · replace k := k.1 c3
        refine a_iconst dX6_letterHere_40 (v := (-1 : Int32)) (by decide) ?_
        exact a_iret dX6_letterHere_41 rfl k
      · replace k := k.2 c3
        refine a_aload_n dX6_letterHere_28 rfl ?_
        refine a_getR dX6_letterHere_29 fF_RX6_9 rfl rfl ?_
        refine a_aload_n dX6_letterHere_32 rfl ?_
        refine a_getI dX6_letterHere_33 fF_RX6_27 rfl rfl ?_
        obtain ⟨e4, k⟩ := k
        refine a_iald dX6_letterHere_36 rfl e4 ?_
        refine a_goto 41 dX6_letterHere_37 (by decide) ?_
        exact a_iret dX6_letterHere_41 rfl k
theorem e_X6_letterHere {G : dh_G} {h : dh_H} {Q : Option Value → dh_H → Prop} (k : (((h 1 2) < 0) → Q (some (.int ((-1 : Int32)))) h) ∧ ((¬ (h 1 2) < 0) → (((h 1 1) ≤ (h 1 2)) → Q (some (.int ((-1 : Int32)))) h) ∧ ((¬ (h 1 1) ≤ (h 1 2)) → (((nI 240) ≤ (h 1 2)) → Q (some (.int ((-1 : Int32)))) h) ∧ ((¬ (nI 240) ≤ (h 1 2)) → (vp_in (h 1 2) 240) ∧ Q (some (.int (h 2 (h 1 2).toNatClampNeg))) h)))) : dh_C G mX6_letterHere [.ref 1] h Q := dh_C_of [some (.ref 1)] (by decide) (Nat.le_of_ble_eq_true rfl) rfl (w_X6_letterHere_0 k)
set_option maxRecDepth 100000 in
theorem w_X6_isFigure_0 {G : dh_G} {x0 : Int32} {h : dh_H} {Q : Option Value → dh_H → Prop} (k : ((x0 < (nI 48)) → Q (some (.int (nI 0))) h) ∧ ((¬ x0 < (nI 48)) → (((nI 57) < x0) → Q (some (.int (nI 0))) h) ∧ ((¬ (nI 57) < x0) → Q (some (.int (nI 1))) h))) : dh_J G mX6_isFigure 0 [some (.int (x0))] [] h Q := by
  refine a_iload_n dX6_isFigure_0 rfl ?_
  refine a_bipush dX6_isFigure_1 (v := nI 48) (by decide) ?_
  refine a_icmp_lt 16 dX6_isFigure_3 (by decide) (fun c1 => ?_) (fun c1 => ?_)
  · replace k := k.1 c1
    refine a_iconst dX6_isFigure_16 (v := nI 0) (by decide) ?_
    exact a_zret dX6_isFigure_17 rfl (by decide) k
  · replace k := k.2 c1
    refine a_iload_n dX6_isFigure_6 rfl ?_
    refine a_bipush dX6_isFigure_7 (v := nI 57) (by decide) ?_
    refine a_icmp_gt 16 dX6_isFigure_9 (by decide) (fun c2 => ?_) (fun c2 => ?_)
    · replace k := k.1 c2
      refine a_iconst dX6_isFigure_16 (v := nI 0) (by decide) ?_
      exact a_zret dX6_isFigure_17 rfl (by decide) k
    · replace k := k.2 c2
      refine a_iconst dX6_isFigure_12 (v := nI 1) (by decide) ?_
      refine a_goto 17 dX6_isFigure_13 (by decide) ?_
      exact a_zret dX6_isFigure_17 rfl (by decide) k
theorem e_X6_isFigure {G : dh_G} {x0 : Int32} {h : dh_H} {Q : Option Value → dh_H → Prop} (k : ((x0 < (nI 48)) → Q (some (.int (nI 0))) h) ∧ ((¬ x0 < (nI 48)) → (((nI 57) < x0) → Q (some (.int (nI 0))) h) ∧ ((¬ (nI 57) < x0) → Q (some (.int (nI 1))) h))) : dh_C G mX6_isFigure [.int (x0)] h Q := dh_C_of [some (.int (x0))] (by decide) (Nat.le_of_ble_eq_true rfl) rfl (w_X6_isFigure_0 k)
set_option maxRecDepth 100000 in
theorem w_X6_fail_0 {G : dh_G} {x1 x2 : Int32} {h : dh_H} {Q : Option Value → dh_H → Prop} (k : ((¬ (h 1 4) = 0) → Q none h) ∧ (((h 1 4) = 0) → Q none (dh_s (dh_s h 1 4 x1) 1 5 x2))) : dh_J G mX6_fail 0 [some (.ref 1), some (.int (x1)), some (.int (x2))] [] h Q := by
  refine a_aload_n dX6_fail_0 rfl ?_
  refine a_getI dX6_fail_1 fF_RX6_30 rfl rfl ?_
  refine a_if_ne 17 dX6_fail_4 (by decide) (fun c1 => ?_) (fun c1 => ?_)
  · replace k := k.1 c1
    exact a_vret dX6_fail_17 rfl k
  · replace k := k.2 c1
    refine a_aload_n dX6_fail_7 rfl ?_
    refine a_iload_n dX6_fail_8 rfl ?_
    refine a_put dX6_fail_9 fF_RX6_30 rfl rfl rfl rfl ?_
    refine a_aload_n dX6_fail_12 rfl ?_
    refine a_iload_n dX6_fail_13 rfl ?_
    refine a_put dX6_fail_14 fF_RX6_15 rfl rfl rfl rfl ?_
    exact a_vret dX6_fail_17 rfl k
theorem e_X6_fail {G : dh_G} {x1 x2 : Int32} {h : dh_H} {Q : Option Value → dh_H → Prop} (k : ((¬ (h 1 4) = 0) → Q none h) ∧ (((h 1 4) = 0) → Q none (dh_s (dh_s h 1 4 x1) 1 5 x2))) : dh_C G mX6_fail [.ref 1, .int (x1), .int (x2)] h Q := dh_C_of [some (.ref 1), some (.int (x1)), some (.int (x2))] (by decide) (Nat.le_of_ble_eq_true rfl) rfl (w_X6_fail_0 k)
