set_option maxRecDepth 100000 in
theorem w_X9_feed_0 {G : dh_G} {x1 : Int32} {h : dh_H} {Q : Option Value → dh_H → Prop} (k : ((x1 < 0) → Q (some (.int ((-1000000002 : Int32)))) h) ∧ ((¬ x1 < 0) → ((x1 ≤ (nI 255)) → dh_C G mX6_append [.ref 1, .int (x1)] h (fun v h1 => dh_J G mX9_feed 22 [some (.ref 0), none] (v.toList ++ []) h1 Q)) ∧ ((¬ x1 ≤ (nI 255)) → Q (some (.int ((-1000000002 : Int32)))) h))) : dh_J G mX9_feed 0 [some (.ref 0), some (.int (x1))] [] h Q := by
  refine a_iload_n dX9_feed_0 rfl ?_
  refine a_if_lt 11 dX9_feed_1 (by decide) (fun c1 => ?_) (fun c1 => ?_)
  · replace k := k.1 c1
    refine a_ldc dX9_feed_11 (v := (-1000000002 : Int32)) kK_RX9_81 ?_
    exact a_iret dX9_feed_13 rfl k
  · replace k := k.2 c1
    refine a_iload_n dX9_feed_4 rfl ?_
    refine a_sipush dX9_feed_5 (v := nI 255) (by decide) ?_
    refine a_icmp_le 14 dX9_feed_8 (by decide) (fun c2 => ?_) (fun c2 => ?_)
    · replace k := k.1 c2
      refine a_aload_n dX9_feed_14 rfl ?_
      refine a_getR dX9_feed_15 fF_RX9_12 rfl rfl ?_
      refine a_iload_n dX9_feed_18 rfl ?_
      refine dh_drop 1 ?_
      exact a_callV1 dX9_feed_19 (dh_Y_up cY_RX9_82 (by decide)) rfl rfl (Nat.le_of_ble_eq_true rfl) k
    · replace k := k.2 c2
      refine a_ldc dX9_feed_11 (v := (-1000000002 : Int32)) kK_RX9_81 ?_
      exact a_iret dX9_feed_13 rfl k
theorem e_X9_feed {G : dh_G} {x1 : Int32} {h : dh_H} {Q : Option Value → dh_H → Prop} (k : ((x1 < 0) → Q (some (.int ((-1000000002 : Int32)))) h) ∧ ((¬ x1 < 0) → ((x1 ≤ (nI 255)) → dh_C G mX6_append [.ref 1, .int (x1)] h (fun v h1 => dh_J G mX9_feed 22 [some (.ref 0), none] (v.toList ++ []) h1 Q)) ∧ ((¬ x1 ≤ (nI 255)) → Q (some (.int ((-1000000002 : Int32)))) h))) : dh_C G mX9_feed [.ref 0, .int (x1)] h Q := dh_C_of [some (.ref 0), some (.int (x1))] (by decide) (Nat.le_of_ble_eq_true rfl) rfl (w_X9_feed_0 k)
set_option maxRecDepth 100000 in
theorem w_X9_feed_22 {G : dh_G} {s0 : Int32} {h : dh_H} {Q : Option Value → dh_H → Prop} (k : ((s0 = 0) → Q (some (.int ((-1000000004 : Int32)))) h) ∧ ((¬ s0 = 0) → Q (some (.int (h 1 1))) h)) : dh_J G mX9_feed 22 [some (.ref 0), none] [.int (s0)] h Q := by
  refine a_if_eq 35 dX9_feed_22 (by decide) (fun c1 => ?_) (fun c1 => ?_)
  · replace k := k.1 c1
    refine a_ldc dX9_feed_35 (v := (-1000000004 : Int32)) kK_RX9_90 ?_
    exact a_iret dX9_feed_37 rfl k
  · replace k := k.2 c1
    refine a_aload_n dX9_feed_25 rfl ?_
    refine a_getR dX9_feed_26 fF_RX9_12 rfl rfl ?_
    refine a_getI dX9_feed_29 fF_RX9_86 rfl rfl ?_
    refine a_goto 37 dX9_feed_32 (by decide) ?_
    exact a_iret dX9_feed_37 rfl k
set_option maxRecDepth 100000 in
theorem w_X9_nursery_0 {G : dh_G} {h : dh_H} {Q : Option Value → dh_H → Prop} (k : dh_C G mX6_readInto [.ref 1, .ref 11] h (fun v h1 => dh_J G mX9_nursery 11 [some (.ref 0), none, none, none, none, none] (v.toList ++ []) h1 Q)) : dh_J G mX9_nursery 0 [some (.ref 0), none, none, none, none, none] [] h Q := by
  refine a_aload_n dX9_nursery_0 rfl ?_
  refine a_getR dX9_nursery_1 fF_RX9_12 rfl rfl ?_
  refine a_aload_n dX9_nursery_4 rfl ?_
  refine a_getR dX9_nursery_5 fF_RX9_23 rfl rfl ?_
  exact a_callV1 dX9_nursery_8 (dh_Y_up cY_RX9_91 (by decide)) rfl rfl (Nat.le_of_ble_eq_true rfl) k
theorem e_X9_nursery {G : dh_G} {h : dh_H} {Q : Option Value → dh_H → Prop} (k : dh_C G mX6_readInto [.ref 1, .ref 11] h (fun v h1 => dh_J G mX9_nursery 11 [some (.ref 0), none, none, none, none, none] (v.toList ++ []) h1 Q)) : dh_C G mX9_nursery [.ref 0] h Q := dh_C_of [some (.ref 0), none, none, none, none, none] (by decide) (Nat.le_of_ble_eq_true rfl) rfl (w_X9_nursery_0 k)
set_option maxRecDepth 100000 in
theorem w_X9_nursery_11 {G : dh_G} {s0 : Int32} {h : dh_H} {Q : Option Value → dh_H → Prop} (k : ((¬ s0 = 0) → dh_C G mX5_copyFrom [.ref 3, .ref 11] (dh_s h 1 1 (nI 0)) (fun v h1 => dh_J G mX9_nursery 46 [some (.ref 0), none, none, none, none, none] (v.toList ++ []) h1 Q)) ∧ ((s0 = 0) → Q (some (.int ((-10 : Int32) - (h 1 4)))) (dh_s h 1 1 (nI 0)))) : dh_J G mX9_nursery 11 [some (.ref 0), none, none, none, none, none] [.int (s0)] h Q := by
  refine a_istore_n dX9_nursery_11 (by decide) rfl ?_
  refine a_aload_n dX9_nursery_12 rfl ?_
  refine a_getR dX9_nursery_13 fF_RX9_12 rfl rfl ?_
  refine a_iconst dX9_nursery_16 (v := nI 0) (by decide) ?_
  refine a_put dX9_nursery_17 fF_RX9_86 rfl rfl rfl rfl ?_
  refine a_iload_n dX9_nursery_20 rfl ?_
  refine a_if_ne 35 dX9_nursery_21 (by decide) (fun c1 => ?_) (fun c1 => ?_)
  · replace k := k.1 c1
    refine a_aload_n dX9_nursery_35 rfl ?_
    refine a_getR dX9_nursery_36 fF_RX9_19 rfl rfl ?_
    refine a_aload_n dX9_nursery_39 rfl ?_
    refine a_getR dX9_nursery_40 fF_RX9_23 rfl rfl ?_
    refine dh_drop 1 ?_
    exact a_callV1 dX9_nursery_43 (dh_Y_up cY_RX9_98 (by decide)) rfl rfl (Nat.le_of_ble_eq_true rfl) k
  · replace k := k.2 c1
    refine a_bipush dX9_nursery_24 (v := (-10 : Int32)) (by decide) ?_
    refine a_aload_n dX9_nursery_26 rfl ?_
    refine a_getR dX9_nursery_27 fF_RX9_12 rfl rfl ?_
    refine a_getI dX9_nursery_30 fF_RX9_95 rfl rfl ?_
    refine a_isub dX9_nursery_33 ?_
    exact a_iret dX9_nursery_34 rfl k
set_option maxRecDepth 100000 in
theorem w_X9_nursery_46 {G : dh_G} {h : dh_H} {Q : Option Value → dh_H → Prop} (k : dh_C G mX8_reset [.ref 19] h (fun v h1 => dh_J G mX9_nursery 53 [some (.ref 0), none, none, none, none, none] (v.toList ++ []) h1 Q)) : dh_J G mX9_nursery 46 [some (.ref 0), none, none, none, none, none] [] h Q := by
  refine a_aload_n dX9_nursery_46 rfl ?_
  refine a_getR dX9_nursery_47 fF_RX9_31 rfl rfl ?_
  exact a_callV0 dX9_nursery_50 (dh_Y_up cY_RX9_101 (by decide)) rfl rfl (Nat.le_of_ble_eq_true rfl) k
set_option maxRecDepth 100000 in
theorem w_X9_nursery_53 {G : dh_G} {h : dh_H} {Q : Option Value → dh_H → Prop} (k : dh_C G mX4_forget [.ref 25] h (fun v h1 => dh_J G mX9_nursery 60 [some (.ref 0), none, none, none, none, none] (v.toList ++ []) h1 Q)) : dh_J G mX9_nursery 53 [some (.ref 0), none, none, none, none, none] [] h Q := by
  refine a_aload_n dX9_nursery_53 rfl ?_
  refine a_getR dX9_nursery_54 fF_RX9_38 rfl rfl ?_
  exact a_callV0 dX9_nursery_57 (dh_Y_up cY_RX9_104 (by decide)) rfl rfl (Nat.le_of_ble_eq_true rfl) k
set_option maxRecDepth 100000 in
theorem w_X9_nursery_60 {G : dh_G} {h : dh_H} {Q : Option Value → dh_H → Prop} (k : dh_C G mX7_clear [.ref 37] h (fun v h1 => dh_J G mX9_nursery 67 [some (.ref 0), none, none, none, none, none] (v.toList ++ []) h1 Q)) : dh_J G mX9_nursery 60 [some (.ref 0), none, none, none, none, none] [] h Q := by
  refine a_aload_n dX9_nursery_60 rfl ?_
  refine a_getR dX9_nursery_61 fF_RX9_52 rfl rfl ?_
  exact a_callV0 dX9_nursery_64 (dh_Y_up cY_RX9_107 (by decide)) rfl rfl (Nat.le_of_ble_eq_true rfl) k
set_option maxRecDepth 100000 in
theorem w_X9_nursery_67 {G : dh_G} {h : dh_H} {Q : Option Value → dh_H → Prop} (k : dh_J G mX9_nursery 86 [some (.ref 0), none, some (.ref 55), some (.int (nI 2)), some (.int (nI 0)), none] [] (dh_s h 51 0 (nI 0)) Q) : dh_J G mX9_nursery 67 [some (.ref 0), none, none, none, none, none] [] h Q := by
  refine a_aload_n dX9_nursery_67 rfl ?_
  refine a_getR dX9_nursery_68 fF_RX9_59 rfl rfl ?_
  refine a_iconst dX9_nursery_71 (v := nI 0) (by decide) ?_
  refine a_put dX9_nursery_72 fF_RX9_110 rfl rfl rfl rfl ?_
  refine a_aload_n dX9_nursery_75 rfl ?_
  refine a_getR dX9_nursery_76 fF_RX9_72 rfl rfl ?_
  refine a_astore_n dX9_nursery_79 (by decide) rfl ?_
  refine a_aload_n dX9_nursery_80 rfl ?_
  refine a_alenR dX9_nursery_81 rfl ?_
  refine a_istore_n dX9_nursery_82 (by decide) rfl ?_
  refine a_iconst dX9_nursery_83 (v := nI 0) (by decide) ?_
  refine a_istore dX9_nursery_84 (by decide) rfl ?_
  exact k
set_option maxRecDepth 100000 in
theorem w_X9_nursery_86 {G : dh_G} {x3 x4 : Int32} {h : dh_H} {Q : Option Value → dh_H → Prop} (k : ((x3 ≤ x4) → Q (some (.int (h 3 3))) h) ∧ ((¬ x3 ≤ x4) → (vp_in x4 2) ∧ ∃ r2 q6, ([56, 58][x4.toNatClampNeg]? = some r2) ∧ (dh_LAY[r2]? = some (.inl (2, [none, none, some q6]))) ∧ dh_J G mX9_nursery 86 [some (.ref 0), none, some (.ref 55), some (.int (x3)), some (.int (x4 + (nI 1))), none] [] (dh_s h r2 0 (nI 0)) Q)) : dh_J G mX9_nursery 86 [some (.ref 0), none, some (.ref 55), some (.int (x3)), some (.int (x4)), none] [] h Q := by
  refine a_iload dX9_nursery_86 rfl ?_
  refine a_iload_n dX9_nursery_88 rfl ?_
  refine a_icmp_ge 115 dX9_nursery_89 (by decide) (fun c1 => ?_) (fun c1 => ?_)
  · replace k := k.1 c1
    refine a_aload_n dX9_nursery_115 rfl ?_
    refine a_getR dX9_nursery_116 fF_RX9_19 rfl rfl ?_
    refine a_getI dX9_nursery_119 fF_RX9_117 rfl rfl ?_
    exact a_iret dX9_nursery_122 rfl k
  · replace k := k.2 c1
    refine a_aload_n dX9_nursery_92 rfl ?_
    refine a_iload dX9_nursery_93 rfl ?_
    obtain ⟨e3, r2, q6, e4, e5, k⟩ := k
    refine a_aald dX9_nursery_95 rfl (Or.inl rfl) e3 e4 ?_
    refine a_astore dX9_nursery_96 (by decide) rfl ?_
    refine a_aload dX9_nursery_98 rfl ?_
    refine a_ifnull dX9_nursery_100 ?_
    refine a_aload dX9_nursery_103 rfl ?_
    refine a_iconst dX9_nursery_105 (v := nI 0) (by decide) ?_
    refine a_put dX9_nursery_106 fF_RX9_113 e5 rfl (by decide) (by decide) ?_
    refine a_iinc dX9_nursery_109 (v := x4 + (nI 1)) rfl (by rfl) (by decide) rfl ?_
    refine a_goto 86 dX9_nursery_112 (by decide) ?_
    refine dh_drop 5 ?_
    exact k
set_option maxRecDepth 100000 in
theorem w_X9_fault_0 {G : dh_G} {h : dh_H} {Q : Option Value → dh_H → Prop} (k : Q (some (.int (h 1 5))) h) : dh_J G mX9_fault 0 [some (.ref 0)] [] h Q := by
  refine a_aload_n dX9_fault_0 rfl ?_
  refine a_getR dX9_fault_1 fF_RX9_12 rfl rfl ?_
  refine a_getI dX9_fault_4 fF_RX9_120 rfl rfl ?_
  exact a_iret dX9_fault_7 rfl k
theorem e_X9_fault {G : dh_G} {h : dh_H} {Q : Option Value → dh_H → Prop} (k : Q (some (.int (h 1 5))) h) : dh_C G mX9_fault [.ref 0] h Q := dh_C_of [some (.ref 0)] (by decide) (Nat.le_of_ble_eq_true rfl) rfl (w_X9_fault_0 k)
set_option maxRecDepth 100000 in
theorem w_X9_told_0 {G : dh_G} {x1 : Int32} {h : dh_H} {Q : Option Value → dh_H → Prop} (k : ((x1).toInt < 0 ∨ 12 < (x1).toInt → Q (some (.int ((-1000000002 : Int32)))) h) ∧ (x1 = nI 0 → Q (some (.int (h 3 1))) h) ∧ (x1 = nI 1 → Q (some (.int (h 3 2))) h) ∧ (x1 = nI 2 → Q (some (.int (h 3 3))) h) ∧ (x1 = nI 3 → Q (some (.int (h 3 4))) h) ∧ (x1 = nI 4 → Q (some (.int (h 1 1))) h) ∧ (x1 = nI 5 → Q (some (.int (h 19 1))) h) ∧ (x1 = nI 6 → dh_C G mX8_calmSet [.ref 19] h (fun v h1 => dh_J G mX9_told 123 [none, none] (v.toList ++ []) h1 Q)) ∧ (x1 = nI 7 → dh_C G mX8_sickSet [.ref 19] h (fun v h1 => dh_J G mX9_told 131 [none, none] (v.toList ++ []) h1 Q)) ∧ (x1 = nI 8 → dh_C G mX8_setAt [.ref 19, .int ((-2 : Int32))] h (fun v h1 => dh_J G mX9_told 141 [none, none] (v.toList ++ []) h1 Q)) ∧ (x1 = nI 9 → dh_C G mX8_readableSet [.ref 19] h (fun v h1 => dh_J G mX9_told 149 [none, none] (v.toList ++ []) h1 Q)) ∧ (x1 = nI 10 → Q (some (.int (h 37 1))) h) ∧ (x1 = nI 11 → Q (some (.int (h 51 0))) h) ∧ (x1 = nI 12 → Q (some (.int (h 25 2))) h)) : dh_J G mX9_told 0 [some (.ref 0), some (.int (x1))] [] h Q := by
  refine a_iload_n dX9_told_0 rfl ?_
  by_cases hx : (x1).toInt < 0 ∨ 12 < (x1).toInt
  · replace k := k.1 hx
    refine a_tableOut 174 dX9_told_1 hx (by decide) ?_
    refine a_ldc dX9_told_174 (v := (-1000000002 : Int32)) kK_RX9_81 ?_
    exact a_iret dX9_told_176 rfl k
  · obtain ⟨j, hj, e⟩ := dh_tab (n := 12) (by decide) hx
    match j, hj, e with
    | 0, _, e =>
      replace k := k.2.1 e
      subst e
      refine a_tableIn (off := 67) 68 dX9_told_1 (fun q => hx (Or.inl q)) (fun q => hx (Or.inr q)) (by decide +kernel) (by decide) ?_
      refine a_aload_n dX9_told_68 rfl ?_
      refine a_getR dX9_told_69 fF_RX9_19 rfl rfl ?_
      refine a_getI dX9_told_72 fF_RX9_123 rfl rfl ?_
      exact a_iret dX9_told_75 rfl k
    | 1, _, e =>
      replace k := k.2.2.1 e
      subst e
      refine a_tableIn (off := 75) 76 dX9_told_1 (fun q => hx (Or.inl q)) (fun q => hx (Or.inr q)) (by decide +kernel) (by decide) ?_
      refine a_aload_n dX9_told_76 rfl ?_
      refine a_getR dX9_told_77 fF_RX9_19 rfl rfl ?_
      refine a_getI dX9_told_80 fF_RX9_126 rfl rfl ?_
      exact a_iret dX9_told_83 rfl k
    | 2, _, e =>
      replace k := k.2.2.2.1 e
      subst e
      refine a_tableIn (off := 83) 84 dX9_told_1 (fun q => hx (Or.inl q)) (fun q => hx (Or.inr q)) (by decide +kernel) (by decide) ?_
      refine a_aload_n dX9_told_84 rfl ?_
      refine a_getR dX9_told_85 fF_RX9_19 rfl rfl ?_
      refine a_getI dX9_told_88 fF_RX9_117 rfl rfl ?_
      exact a_iret dX9_told_91 rfl k
    | 3, _, e =>
      replace k := k.2.2.2.2.1 e
      subst e
      refine a_tableIn (off := 91) 92 dX9_told_1 (fun q => hx (Or.inl q)) (fun q => hx (Or.inr q)) (by decide +kernel) (by decide) ?_
      refine a_aload_n dX9_told_92 rfl ?_
      refine a_getR dX9_told_93 fF_RX9_19 rfl rfl ?_
      refine a_getI dX9_told_96 fF_RX9_129 rfl rfl ?_
      exact a_iret dX9_told_99 rfl k
    | 4, _, e =>
      replace k := k.2.2.2.2.2.1 e
      subst e
      refine a_tableIn (off := 99) 100 dX9_told_1 (fun q => hx (Or.inl q)) (fun q => hx (Or.inr q)) (by decide +kernel) (by decide) ?_
      refine a_aload_n dX9_told_100 rfl ?_
      refine a_getR dX9_told_101 fF_RX9_12 rfl rfl ?_
      refine a_getI dX9_told_104 fF_RX9_86 rfl rfl ?_
      exact a_iret dX9_told_107 rfl k
    | 5, _, e =>
      replace k := k.2.2.2.2.2.2.1 e
      subst e
      refine a_tableIn (off := 107) 108 dX9_told_1 (fun q => hx (Or.inl q)) (fun q => hx (Or.inr q)) (by decide +kernel) (by decide) ?_
      refine a_aload_n dX9_told_108 rfl ?_
      refine a_getR dX9_told_109 fF_RX9_31 rfl rfl ?_
      refine a_getI dX9_told_112 fF_RX9_132 rfl rfl ?_
      exact a_iret dX9_told_115 rfl k
    | 6, _, e =>
      replace k := k.2.2.2.2.2.2.2.1 e
      subst e
      refine a_tableIn (off := 115) 116 dX9_told_1 (fun q => hx (Or.inl q)) (fun q => hx (Or.inr q)) (by decide +kernel) (by decide) ?_
      refine a_aload_n dX9_told_116 rfl ?_
      refine a_getR dX9_told_117 fF_RX9_31 rfl rfl ?_
      refine dh_drop 0 ?_
      refine dh_drop 1 ?_
      exact a_callV0 dX9_told_120 (dh_Y_up cY_RX9_135 (by decide)) rfl rfl (Nat.le_of_ble_eq_true rfl) k
    | 7, _, e =>
      replace k := k.2.2.2.2.2.2.2.2.1 e
      subst e
      refine a_tableIn (off := 123) 124 dX9_told_1 (fun q => hx (Or.inl q)) (fun q => hx (Or.inr q)) (by decide +kernel) (by decide) ?_
      refine a_aload_n dX9_told_124 rfl ?_
      refine a_getR dX9_told_125 fF_RX9_31 rfl rfl ?_
      refine dh_drop 0 ?_
      refine dh_drop 1 ?_
      exact a_callV0 dX9_told_128 (dh_Y_up cY_RX9_139 (by decide)) rfl rfl (Nat.le_of_ble_eq_true rfl) k
    | 8, _, e =>
      replace k := k.2.2.2.2.2.2.2.2.2.1 e
      subst e
      refine a_tableIn (off := 131) 132 dX9_told_1 (fun q => hx (Or.inl q)) (fun q => hx (Or.inr q)) (by decide +kernel) (by decide) ?_
      refine a_aload_n dX9_told_132 rfl ?_
      refine a_getR dX9_told_133 fF_RX9_31 rfl rfl ?_
      refine a_bipush dX9_told_136 (v := (-2 : Int32)) (by decide) ?_
      refine dh_drop 0 ?_
      refine dh_drop 1 ?_
      exact a_callV1 dX9_told_138 (dh_Y_up cY_RX9_142 (by decide)) rfl rfl (Nat.le_of_ble_eq_true rfl) k
    | 9, _, e =>
      replace k := k.2.2.2.2.2.2.2.2.2.2.1 e
      subst e
      refine a_tableIn (off := 141) 142 dX9_told_1 (fun q => hx (Or.inl q)) (fun q => hx (Or.inr q)) (by decide +kernel) (by decide) ?_
      refine a_aload_n dX9_told_142 rfl ?_
      refine a_getR dX9_told_143 fF_RX9_31 rfl rfl ?_
      refine dh_drop 0 ?_
      refine dh_drop 1 ?_
      exact a_callV0 dX9_told_146 (dh_Y_up cY_RX9_146 (by decide)) rfl rfl (Nat.le_of_ble_eq_true rfl) k
    | 10, _, e =>
      replace k := k.2.2.2.2.2.2.2.2.2.2.2.1 e
      subst e
      refine a_tableIn (off := 149) 150 dX9_told_1 (fun q => hx (Or.inl q)) (fun q => hx (Or.inr q)) (by decide +kernel) (by decide) ?_
      refine a_aload_n dX9_told_150 rfl ?_
      refine a_getR dX9_told_151 fF_RX9_52 rfl rfl ?_
      refine a_getI dX9_told_154 fF_RX9_149 rfl rfl ?_
      exact a_iret dX9_told_157 rfl k
    | 11, _, e =>
      replace k := k.2.2.2.2.2.2.2.2.2.2.2.2.1 e
      subst e
      refine a_tableIn (off := 157) 158 dX9_told_1 (fun q => hx (Or.inl q)) (fun q => hx (Or.inr q)) (by decide +kernel) (by decide) ?_
      refine a_aload_n dX9_told_158 rfl ?_
      refine a_getR dX9_told_159 fF_RX9_59 rfl rfl ?_
      refine a_getI dX9_told_162 fF_RX9_110 rfl rfl ?_
      exact a_iret dX9_told_165 rfl k
    | 12, _, e =>
      replace k := k.2.2.2.2.2.2.2.2.2.2.2.2.2 e
      subst e
      refine a_tableIn (off := 165) 166 dX9_told_1 (fun q => hx (Or.inl q)) (fun q => hx (Or.inr q)) (by decide +kernel) (by decide) ?_
      refine a_aload_n dX9_told_166 rfl ?_
      refine a_getR dX9_told_167 fF_RX9_38 rfl rfl ?_
      refine a_getI dX9_told_170 fF_RX9_150 rfl rfl ?_
      exact a_iret dX9_told_173 rfl k
    | j + 13, hj, _ => exact absurd hj (by omega)
theorem e_X9_told {G : dh_G} {x1 : Int32} {h : dh_H} {Q : Option Value → dh_H → Prop} (k : ((x1).toInt < 0 ∨ 12 < (x1).toInt → Q (some (.int ((-1000000002 : Int32)))) h) ∧ (x1 = nI 0 → Q (some (.int (h 3 1))) h) ∧ (x1 = nI 1 → Q (some (.int (h 3 2))) h) ∧ (x1 = nI 2 → Q (some (.int (h 3 3))) h) ∧ (x1 = nI 3 → Q (some (.int (h 3 4))) h) ∧ (x1 = nI 4 → Q (some (.int (h 1 1))) h) ∧ (x1 = nI 5 → Q (some (.int (h 19 1))) h) ∧ (x1 = nI 6 → dh_C G mX8_calmSet [.ref 19] h (fun v h1 => dh_J G mX9_told 123 [none, none] (v.toList ++ []) h1 Q)) ∧ (x1 = nI 7 → dh_C G mX8_sickSet [.ref 19] h (fun v h1 => dh_J G mX9_told 131 [none, none] (v.toList ++ []) h1 Q)) ∧ (x1 = nI 8 → dh_C G mX8_setAt [.ref 19, .int ((-2 : Int32))] h (fun v h1 => dh_J G mX9_told 141 [none, none] (v.toList ++ []) h1 Q)) ∧ (x1 = nI 9 → dh_C G mX8_readableSet [.ref 19] h (fun v h1 => dh_J G mX9_told 149 [none, none] (v.toList ++ []) h1 Q)) ∧ (x1 = nI 10 → Q (some (.int (h 37 1))) h) ∧ (x1 = nI 11 → Q (some (.int (h 51 0))) h) ∧ (x1 = nI 12 → Q (some (.int (h 25 2))) h)) : dh_C G mX9_told [.ref 0, .int (x1)] h Q := dh_C_of [some (.ref 0), some (.int (x1))] (by decide) (Nat.le_of_ble_eq_true rfl) rfl (w_X9_told_0 k)
set_option maxRecDepth 100000 in
theorem w_X9_told_123 {G : dh_G} {s0 : Int32} {h : dh_H} {Q : Option Value → dh_H → Prop} (k : Q (some (.int (s0))) h) : dh_J G mX9_told 123 [none, none] [.int (s0)] h Q := by
  exact a_iret dX9_told_123 rfl k
set_option maxRecDepth 100000 in
theorem w_X9_told_131 {G : dh_G} {s0 : Int32} {h : dh_H} {Q : Option Value → dh_H → Prop} (k : Q (some (.int (s0))) h) : dh_J G mX9_told 131 [none, none] [.int (s0)] h Q := by
  exact a_iret dX9_told_131 rfl k
set_option maxRecDepth 100000 in
theorem w_X9_told_141 {G : dh_G} {s0 : Int32} {h : dh_H} {Q : Option Value → dh_H → Prop} (k : Q (some (.int (s0))) h) : dh_J G mX9_told 141 [none, none] [.int (s0)] h Q := by
  exact a_iret dX9_told_141 rfl k
set_option maxRecDepth 100000 in
theorem w_X9_told_149 {G : dh_G} {s0 : Int32} {h : dh_H} {Q : Option Value → dh_H → Prop} (k : Q (some (.int (s0))) h) : dh_J G mX9_told 149 [none, none] [.int (s0)] h Q := by
  exact a_iret dX9_told_149 rfl k
set_option maxRecDepth 100000 in
theorem w_X9_child_0 {G : dh_G} {x1 x2 : Int32} {h : dh_H} {Q : Option Value → dh_H → Prop} (k : dh_C G mX5_hasChild [.ref 3, .int (x1)] h (fun v h1 => dh_J G mX9_child 8 [some (.ref 0), some (.int (x1)), some (.int (x2))] (v.toList ++ []) h1 Q)) : dh_J G mX9_child 0 [some (.ref 0), some (.int (x1)), some (.int (x2))] [] h Q := by
  refine a_aload_n dX9_child_0 rfl ?_
  refine a_getR dX9_child_1 fF_RX9_19 rfl rfl ?_
  refine a_iload_n dX9_child_4 rfl ?_
  exact a_callV1 dX9_child_5 (dh_Y_up cY_RX9_151 (by decide)) rfl rfl (Nat.le_of_ble_eq_true rfl) k
theorem e_X9_child {G : dh_G} {x1 x2 : Int32} {h : dh_H} {Q : Option Value → dh_H → Prop} (k : dh_C G mX5_hasChild [.ref 3, .int (x1)] h (fun v h1 => dh_J G mX9_child 8 [some (.ref 0), some (.int (x1)), some (.int (x2))] (v.toList ++ []) h1 Q)) : dh_C G mX9_child [.ref 0, .int (x1), .int (x2)] h Q := dh_C_of [some (.ref 0), some (.int (x1)), some (.int (x2))] (by decide) (Nat.le_of_ble_eq_true rfl) rfl (w_X9_child_0 k)
set_option maxRecDepth 100000 in
theorem w_X9_child_8 {G : dh_G} {x1 x2 s0 : Int32} {h : dh_H} {Q : Option Value → dh_H → Prop} (k : ((¬ s0 = 0) → ((x2).toInt < 0 ∨ 5 < (x2).toInt → Q (some (.int ((-1000000002 : Int32)))) h) ∧ (x2 = nI 0 → (vp_in x1 6) ∧ Q (some (.int (h 4 x1.toNatClampNeg))) h) ∧ (x2 = nI 1 → (vp_in x1 6) ∧ Q (some (.int (h 5 x1.toNatClampNeg))) h) ∧ (x2 = nI 2 → dh_C G mX8_dummyOf [.ref 19, .int (x1)] h (fun v h1 => dh_J G mX9_child 80 [none, none, none] (v.toList ++ []) h1 Q)) ∧ (x2 = nI 3 → (vp_in x1 6) ∧ Q (some (.int (h 6 x1.toNatClampNeg))) h) ∧ (x2 = nI 4 → (vp_in x1 6) ∧ Q (some (.int (h 23 x1.toNatClampNeg))) h) ∧ (x2 = nI 5 → (vp_in x1 6) ∧ Q (some (.int (h 24 x1.toNatClampNeg))) h)) ∧ ((s0 = 0) → Q (some (.int ((-1000000001 : Int32)))) h)) : dh_J G mX9_child 8 [some (.ref 0), some (.int (x1)), some (.int (x2))] [.int (s0)] h Q := by
  refine a_if_ne 14 dX9_child_8 (by decide) (fun c1 => ?_) (fun c1 => ?_)
  · replace k := k.1 c1
    refine a_iload_n dX9_child_14 rfl ?_
    by_cases hx : (x2).toInt < 0 ∨ 5 < (x2).toInt
    · replace k := k.1 hx
      refine a_tableOut 111 dX9_child_15 hx (by decide) ?_
      refine a_ldc dX9_child_111 (v := (-1000000002 : Int32)) kK_RX9_81 ?_
      exact a_iret dX9_child_113 rfl k
    · obtain ⟨j, hj, e⟩ := dh_tab (n := 5) (by decide) hx
      match j, hj, e with
      | 0, _, e =>
        replace k := k.2.1 e
        subst e
        refine a_tableIn (off := 37) 52 dX9_child_15 (fun q => hx (Or.inl q)) (fun q => hx (Or.inr q)) (by decide +kernel) (by decide) ?_
        refine a_aload_n dX9_child_52 rfl ?_
        refine a_getR dX9_child_53 fF_RX9_19 rfl rfl ?_
        refine a_getR dX9_child_56 fF_RX9_155 rfl rfl ?_
        refine a_iload_n dX9_child_59 rfl ?_
        obtain ⟨e2, k⟩ := k
        refine a_iald dX9_child_60 rfl e2 ?_
        exact a_iret dX9_child_61 rfl k
      | 1, _, e =>
        replace k := k.2.2.1 e
        subst e
        refine a_tableIn (off := 47) 62 dX9_child_15 (fun q => hx (Or.inl q)) (fun q => hx (Or.inr q)) (by decide +kernel) (by decide) ?_
        refine a_aload_n dX9_child_62 rfl ?_
        refine a_getR dX9_child_63 fF_RX9_19 rfl rfl ?_
        refine a_getR dX9_child_66 fF_RX9_158 rfl rfl ?_
        refine a_iload_n dX9_child_69 rfl ?_
        obtain ⟨e3, k⟩ := k
        refine a_iald dX9_child_70 rfl e3 ?_
        exact a_iret dX9_child_71 rfl k
      | 2, _, e =>
        replace k := k.2.2.2.1 e
        subst e
        refine a_tableIn (off := 57) 72 dX9_child_15 (fun q => hx (Or.inl q)) (fun q => hx (Or.inr q)) (by decide +kernel) (by decide) ?_
        refine a_aload_n dX9_child_72 rfl ?_
        refine a_getR dX9_child_73 fF_RX9_31 rfl rfl ?_
        refine a_iload_n dX9_child_76 rfl ?_
        refine dh_drop 0 ?_
        refine dh_drop 1 ?_
        refine dh_drop 2 ?_
        exact a_callV1 dX9_child_77 (dh_Y_up cY_RX9_161 (by decide)) rfl rfl (Nat.le_of_ble_eq_true rfl) k
      | 3, _, e =>
        replace k := k.2.2.2.2.1 e
        subst e
        refine a_tableIn (off := 66) 81 dX9_child_15 (fun q => hx (Or.inl q)) (fun q => hx (Or.inr q)) (by decide +kernel) (by decide) ?_
        refine a_aload_n dX9_child_81 rfl ?_
        refine a_getR dX9_child_82 fF_RX9_19 rfl rfl ?_
        refine a_getR dX9_child_85 fF_RX9_164 rfl rfl ?_
        refine a_iload_n dX9_child_88 rfl ?_
        obtain ⟨e4, k⟩ := k
        refine a_iald dX9_child_89 rfl e4 ?_
        exact a_iret dX9_child_90 rfl k
      | 4, _, e =>
        replace k := k.2.2.2.2.2.1 e
        subst e
        refine a_tableIn (off := 76) 91 dX9_child_15 (fun q => hx (Or.inl q)) (fun q => hx (Or.inr q)) (by decide +kernel) (by decide) ?_
        refine a_aload_n dX9_child_91 rfl ?_
        refine a_getR dX9_child_92 fF_RX9_31 rfl rfl ?_
        refine a_getR dX9_child_95 fF_RX9_167 rfl rfl ?_
        refine a_iload_n dX9_child_98 rfl ?_
        obtain ⟨e5, k⟩ := k
        refine a_iald dX9_child_99 rfl e5 ?_
        exact a_iret dX9_child_100 rfl k
      | 5, _, e =>
        replace k := k.2.2.2.2.2.2 e
        subst e
        refine a_tableIn (off := 86) 101 dX9_child_15 (fun q => hx (Or.inl q)) (fun q => hx (Or.inr q)) (by decide +kernel) (by decide) ?_
        refine a_aload_n dX9_child_101 rfl ?_
        refine a_getR dX9_child_102 fF_RX9_31 rfl rfl ?_
        refine a_getR dX9_child_105 fF_RX9_170 rfl rfl ?_
        refine a_iload_n dX9_child_108 rfl ?_
        obtain ⟨e6, k⟩ := k
        refine a_iald dX9_child_109 rfl e6 ?_
        exact a_iret dX9_child_110 rfl k
      | j + 6, hj, _ => exact absurd hj (by omega)
  · replace k := k.2 c1
    refine a_ldc dX9_child_11 (v := (-1000000001 : Int32)) kK_RX9_154 ?_
    exact a_iret dX9_child_13 rfl k
set_option maxRecDepth 100000 in
theorem w_X9_child_80 {G : dh_G} {s0 : Int32} {h : dh_H} {Q : Option Value → dh_H → Prop} (k : Q (some (.int (s0))) h) : dh_J G mX9_child 80 [none, none, none] [.int (s0)] h Q := by
  exact a_iret dX9_child_80 rfl k
set_option maxRecDepth 100000 in
theorem w_X9_dummy_0 {G : dh_G} {x1 x2 : Int32} {h : dh_H} {Q : Option Value → dh_H → Prop} (k : dh_C G mX5_hasDummy [.ref 3, .int (x1)] h (fun v h1 => dh_J G mX9_dummy 8 [some (.ref 0), some (.int (x1)), some (.int (x2))] (v.toList ++ []) h1 Q)) : dh_J G mX9_dummy 0 [some (.ref 0), some (.int (x1)), some (.int (x2))] [] h Q := by
  refine a_aload_n dX9_dummy_0 rfl ?_
  refine a_getR dX9_dummy_1 fF_RX9_19 rfl rfl ?_
  refine a_iload_n dX9_dummy_4 rfl ?_
  exact a_callV1 dX9_dummy_5 (dh_Y_up cY_RX9_173 (by decide)) rfl rfl (Nat.le_of_ble_eq_true rfl) k
theorem e_X9_dummy {G : dh_G} {x1 x2 : Int32} {h : dh_H} {Q : Option Value → dh_H → Prop} (k : dh_C G mX5_hasDummy [.ref 3, .int (x1)] h (fun v h1 => dh_J G mX9_dummy 8 [some (.ref 0), some (.int (x1)), some (.int (x2))] (v.toList ++ []) h1 Q)) : dh_C G mX9_dummy [.ref 0, .int (x1), .int (x2)] h Q := dh_C_of [some (.ref 0), some (.int (x1)), some (.int (x2))] (by decide) (Nat.le_of_ble_eq_true rfl) rfl (w_X9_dummy_0 k)
set_option maxRecDepth 100000 in
theorem w_X9_dummy_8 {G : dh_G} {x1 x2 s0 : Int32} {h : dh_H} {Q : Option Value → dh_H → Prop} (k : ((¬ s0 = 0) → ((x2).toInt < 0 ∨ 7 < (x2).toInt → Q (some (.int ((-1000000002 : Int32)))) h) ∧ (x2 = nI 0 → (vp_in x1 6) ∧ Q (some (.int (h 7 x1.toNatClampNeg))) h) ∧ (x2 = nI 1 → (vp_in x1 6) ∧ Q (some (.int (h 8 x1.toNatClampNeg))) h) ∧ (x2 = nI 2 → (vp_in x1 6) ∧ Q (some (.int (h 9 x1.toNatClampNeg))) h) ∧ (x2 = nI 3 → (vp_in x1 6) ∧ Q (some (.int (h 10 x1.toNatClampNeg))) h) ∧ (x2 = nI 4 → dh_C G mX8_holderOf [.ref 19, .int (x1)] h (fun v h1 => dh_J G mX9_dummy 108 [none, none, none] (v.toList ++ []) h1 Q)) ∧ (x2 = nI 5 → (vp_in x1 6) ∧ Q (some (.int (h 21 x1.toNatClampNeg))) h) ∧ (x2 = nI 6 → (vp_in x1 6) ∧ Q (some (.int (h 22 x1.toNatClampNeg))) h) ∧ (x2 = nI 7 → dh_C G mX8_kindOfPlace [.ref 19, .int (x1)] h (fun v h1 => dh_J G mX9_dummy 137 [none, none, none] (v.toList ++ []) h1 Q))) ∧ ((s0 = 0) → Q (some (.int ((-1000000001 : Int32)))) h)) : dh_J G mX9_dummy 8 [some (.ref 0), some (.int (x1)), some (.int (x2))] [.int (s0)] h Q := by
  refine a_if_ne 14 dX9_dummy_8 (by decide) (fun c1 => ?_) (fun c1 => ?_)
  · replace k := k.1 c1
    refine a_iload_n dX9_dummy_14 rfl ?_
    by_cases hx : (x2).toInt < 0 ∨ 7 < (x2).toInt
    · replace k := k.1 hx
      refine a_tableOut 138 dX9_dummy_15 hx (by decide) ?_
      refine a_ldc dX9_dummy_138 (v := (-1000000002 : Int32)) kK_RX9_81 ?_
      exact a_iret dX9_dummy_140 rfl k
    · obtain ⟨j, hj, e⟩ := dh_tab (n := 7) (by decide) hx
      match j, hj, e with
      | 0, _, e =>
        replace k := k.2.1 e
        subst e
        refine a_tableIn (off := 45) 60 dX9_dummy_15 (fun q => hx (Or.inl q)) (fun q => hx (Or.inr q)) (by decide +kernel) (by decide) ?_
        refine a_aload_n dX9_dummy_60 rfl ?_
        refine a_getR dX9_dummy_61 fF_RX9_19 rfl rfl ?_
        refine a_getR dX9_dummy_64 fF_RX9_176 rfl rfl ?_
        refine a_iload_n dX9_dummy_67 rfl ?_
        obtain ⟨e2, k⟩ := k
        refine a_iald dX9_dummy_68 rfl e2 ?_
        exact a_iret dX9_dummy_69 rfl k
      | 1, _, e =>
        replace k := k.2.2.1 e
        subst e
        refine a_tableIn (off := 55) 70 dX9_dummy_15 (fun q => hx (Or.inl q)) (fun q => hx (Or.inr q)) (by decide +kernel) (by decide) ?_
        refine a_aload_n dX9_dummy_70 rfl ?_
        refine a_getR dX9_dummy_71 fF_RX9_19 rfl rfl ?_
        refine a_getR dX9_dummy_74 fF_RX9_179 rfl rfl ?_
        refine a_iload_n dX9_dummy_77 rfl ?_
        obtain ⟨e3, k⟩ := k
        refine a_iald dX9_dummy_78 rfl e3 ?_
        exact a_iret dX9_dummy_79 rfl k
      | 2, _, e =>
        replace k := k.2.2.2.1 e
        subst e
        refine a_tableIn (off := 65) 80 dX9_dummy_15 (fun q => hx (Or.inl q)) (fun q => hx (Or.inr q)) (by decide +kernel) (by decide) ?_
        refine a_aload_n dX9_dummy_80 rfl ?_
        refine a_getR dX9_dummy_81 fF_RX9_19 rfl rfl ?_
        refine a_getR dX9_dummy_84 fF_RX9_182 rfl rfl ?_
        refine a_iload_n dX9_dummy_87 rfl ?_
        obtain ⟨e4, k⟩ := k
        refine a_iald dX9_dummy_88 rfl e4 ?_
        exact a_iret dX9_dummy_89 rfl k
      | 3, _, e =>
        replace k := k.2.2.2.2.1 e
        subst e
        refine a_tableIn (off := 75) 90 dX9_dummy_15 (fun q => hx (Or.inl q)) (fun q => hx (Or.inr q)) (by decide +kernel) (by decide) ?_
        refine a_aload_n dX9_dummy_90 rfl ?_
        refine a_getR dX9_dummy_91 fF_RX9_19 rfl rfl ?_
        refine a_getR dX9_dummy_94 fF_RX9_185 rfl rfl ?_
        refine a_iload_n dX9_dummy_97 rfl ?_
        obtain ⟨e5, k⟩ := k
        refine a_iald dX9_dummy_98 rfl e5 ?_
        exact a_iret dX9_dummy_99 rfl k
      | 4, _, e =>
        replace k := k.2.2.2.2.2.1 e
        subst e
        refine a_tableIn (off := 85) 100 dX9_dummy_15 (fun q => hx (Or.inl q)) (fun q => hx (Or.inr q)) (by decide +kernel) (by decide) ?_
        refine a_aload_n dX9_dummy_100 rfl ?_
        refine a_getR dX9_dummy_101 fF_RX9_31 rfl rfl ?_
        refine a_iload_n dX9_dummy_104 rfl ?_
        refine dh_drop 0 ?_
        refine dh_drop 1 ?_
        refine dh_drop 2 ?_
        exact a_callV1 dX9_dummy_105 (dh_Y_up cY_RX9_188 (by decide)) rfl rfl (Nat.le_of_ble_eq_true rfl) k
      | 5, _, e =>
        replace k := k.2.2.2.2.2.2.1 e
        subst e
        refine a_tableIn (off := 94) 109 dX9_dummy_15 (fun q => hx (Or.inl q)) (fun q => hx (Or.inr q)) (by decide +kernel) (by decide) ?_
        refine a_aload_n dX9_dummy_109 rfl ?_
        refine a_getR dX9_dummy_110 fF_RX9_31 rfl rfl ?_
        refine a_getR dX9_dummy_113 fF_RX9_191 rfl rfl ?_
        refine a_iload_n dX9_dummy_116 rfl ?_
        obtain ⟨e6, k⟩ := k
        refine a_iald dX9_dummy_117 rfl e6 ?_
        exact a_iret dX9_dummy_118 rfl k
      | 6, _, e =>
        replace k := k.2.2.2.2.2.2.2.1 e
        subst e
        refine a_tableIn (off := 104) 119 dX9_dummy_15 (fun q => hx (Or.inl q)) (fun q => hx (Or.inr q)) (by decide +kernel) (by decide) ?_
        refine a_aload_n dX9_dummy_119 rfl ?_
        refine a_getR dX9_dummy_120 fF_RX9_31 rfl rfl ?_
        refine a_getR dX9_dummy_123 fF_RX9_194 rfl rfl ?_
        refine a_iload_n dX9_dummy_126 rfl ?_
        obtain ⟨e7, k⟩ := k
        refine a_iald dX9_dummy_127 rfl e7 ?_
        exact a_iret dX9_dummy_128 rfl k
      | 7, _, e =>
        replace k := k.2.2.2.2.2.2.2.2 e
        subst e
        refine a_tableIn (off := 114) 129 dX9_dummy_15 (fun q => hx (Or.inl q)) (fun q => hx (Or.inr q)) (by decide +kernel) (by decide) ?_
        refine a_aload_n dX9_dummy_129 rfl ?_
        refine a_getR dX9_dummy_130 fF_RX9_31 rfl rfl ?_
        refine a_iload_n dX9_dummy_133 rfl ?_
        refine dh_drop 0 ?_
        refine dh_drop 1 ?_
        refine dh_drop 2 ?_
        exact a_callV1 dX9_dummy_134 (dh_Y_up cY_RX9_197 (by decide)) rfl rfl (Nat.le_of_ble_eq_true rfl) k
      | j + 8, hj, _ => exact absurd hj (by omega)
  · replace k := k.2 c1
    refine a_ldc dX9_dummy_11 (v := (-1000000001 : Int32)) kK_RX9_154 ?_
    exact a_iret dX9_dummy_13 rfl k
set_option maxRecDepth 100000 in
theorem w_X9_dummy_108 {G : dh_G} {s0 : Int32} {h : dh_H} {Q : Option Value → dh_H → Prop} (k : Q (some (.int (s0))) h) : dh_J G mX9_dummy 108 [none, none, none] [.int (s0)] h Q := by
  exact a_iret dX9_dummy_108 rfl k
set_option maxRecDepth 100000 in
theorem w_X9_dummy_137 {G : dh_G} {s0 : Int32} {h : dh_H} {Q : Option Value → dh_H → Prop} (k : Q (some (.int (s0))) h) : dh_J G mX9_dummy 137 [none, none, none] [.int (s0)] h Q := by
  exact a_iret dX9_dummy_137 rfl k
set_option maxRecDepth 100000 in
theorem w_X9_hour_0 {G : dh_G} {x1 : Int32} {h : dh_H} {Q : Option Value → dh_H → Prop} (k : dh_C G mX9_refusalOfHours [.ref 0, .int (x1)] h (fun v h1 => dh_J G mX9_hour 5 [some (.ref 0), some (.int (x1)), none, none] (v.toList ++ []) h1 Q)) : dh_J G mX9_hour 0 [some (.ref 0), some (.int (x1)), none, none] [] h Q := by
  refine a_aload_n dX9_hour_0 rfl ?_
  refine a_iload_n dX9_hour_1 rfl ?_
  exact a_callV1 dX9_hour_2 (dh_Y_up cY_RX9_200 (by decide)) rfl rfl (Nat.le_of_ble_eq_true rfl) k
theorem e_X9_hour {G : dh_G} {x1 : Int32} {h : dh_H} {Q : Option Value → dh_H → Prop} (k : dh_C G mX9_refusalOfHours [.ref 0, .int (x1)] h (fun v h1 => dh_J G mX9_hour 5 [some (.ref 0), some (.int (x1)), none, none] (v.toList ++ []) h1 Q)) : dh_C G mX9_hour [.ref 0, .int (x1)] h Q := dh_C_of [some (.ref 0), some (.int (x1)), none, none] (by decide) (Nat.le_of_ble_eq_true rfl) rfl (w_X9_hour_0 k)
set_option maxRecDepth 100000 in
theorem w_X9_hour_5 {G : dh_G} {x1 s0 : Int32} {h : dh_H} {Q : Option Value → dh_H → Prop} (k : ((s0 = 0) → dh_C G mX4_remember [.ref 25, .ref 19] h (fun v h1 => dh_J G mX9_hour 23 [some (.ref 0), some (.int (x1)), none, none] (v.toList ++ []) h1 Q)) ∧ ((¬ s0 = 0) → Q (some (.int (s0))) h)) : dh_J G mX9_hour 5 [some (.ref 0), some (.int (x1)), none, none] [.int (s0)] h Q := by
  refine a_istore_n dX9_hour_5 (by decide) rfl ?_
  refine a_iload_n dX9_hour_6 rfl ?_
  refine a_if_eq 12 dX9_hour_7 (by decide) (fun c1 => ?_) (fun c1 => ?_)
  · replace k := k.1 c1
    refine a_aload_n dX9_hour_12 rfl ?_
    refine a_getR dX9_hour_13 fF_RX9_38 rfl rfl ?_
    refine a_aload_n dX9_hour_16 rfl ?_
    refine a_getR dX9_hour_17 fF_RX9_31 rfl rfl ?_
    refine dh_drop 2 ?_
    exact a_callV1 dX9_hour_20 (dh_Y_up cY_RX9_203 (by decide)) rfl rfl (Nat.le_of_ble_eq_true rfl) k
  · replace k := k.2 c1
    refine a_iload_n dX9_hour_10 rfl ?_
    exact a_iret dX9_hour_11 rfl k
set_option maxRecDepth 100000 in
theorem w_X9_hour_23 {G : dh_G} {x1 : Int32} {h : dh_H} {Q : Option Value → dh_H → Prop} (k : dh_J G mX9_hour 25 [some (.ref 0), some (.int (x1)), none, some (.int (nI 0))] [] h Q) : dh_J G mX9_hour 23 [some (.ref 0), some (.int (x1)), none, none] [] h Q := by
  refine a_iconst dX9_hour_23 (v := nI 0) (by decide) ?_
  refine a_istore_n dX9_hour_24 (by decide) rfl ?_
  exact k
set_option maxRecDepth 100000 in
theorem w_X9_hour_25 {G : dh_G} {x1 x3 : Int32} {h : dh_H} {Q : Option Value → dh_H → Prop} (k : ((x1 ≤ x3) → Q (some (.int (h 19 1))) h) ∧ ((¬ x1 ≤ x3) → dh_C G mX8_passHour [.ref 19] h (fun v h1 => dh_J G mX9_hour 37 [some (.ref 0), some (.int (x1)), none, some (.int (x3))] (v.toList ++ []) h1 Q))) : dh_J G mX9_hour 25 [some (.ref 0), some (.int (x1)), none, some (.int (x3))] [] h Q := by
  refine a_iload_n dX9_hour_25 rfl ?_
  refine a_iload_n dX9_hour_26 rfl ?_
  refine a_icmp_ge 43 dX9_hour_27 (by decide) (fun c1 => ?_) (fun c1 => ?_)
  · replace k := k.1 c1
    refine a_aload_n dX9_hour_43 rfl ?_
    refine a_getR dX9_hour_44 fF_RX9_31 rfl rfl ?_
    refine a_getI dX9_hour_47 fF_RX9_132 rfl rfl ?_
    exact a_iret dX9_hour_50 rfl k
  · replace k := k.2 c1
    refine a_aload_n dX9_hour_30 rfl ?_
    refine a_getR dX9_hour_31 fF_RX9_31 rfl rfl ?_
    exact a_callV0 dX9_hour_34 (dh_Y_up cY_RX9_207 (by decide)) rfl rfl (Nat.le_of_ble_eq_true rfl) k
set_option maxRecDepth 100000 in
theorem w_X9_hour_37 {G : dh_G} {x1 x3 : Int32} {h : dh_H} {Q : Option Value → dh_H → Prop} (k : dh_J G mX9_hour 25 [some (.ref 0), some (.int (x1)), none, some (.int (x3 + (nI 1)))] [] h Q) : dh_J G mX9_hour 37 [some (.ref 0), some (.int (x1)), none, some (.int (x3))] [] h Q := by
  refine a_iinc dX9_hour_37 (v := x3 + (nI 1)) rfl (by rfl) (by decide) rfl ?_
  refine a_goto 25 dX9_hour_40 (by decide) ?_
  exact k
set_option maxRecDepth 100000 in
theorem w_X9_give_0 {G : dh_G} {x1 x2 : Int32} {h : dh_H} {Q : Option Value → dh_H → Prop} (k : dh_C G mX5_hasDummy [.ref 3, .int (x1)] h (fun v h1 => dh_J G mX9_give 8 [some (.ref 0), some (.int (x1)), some (.int (x2))] (v.toList ++ []) h1 Q)) : dh_J G mX9_give 0 [some (.ref 0), some (.int (x1)), some (.int (x2))] [] h Q := by
  refine a_aload_n dX9_give_0 rfl ?_
  refine a_getR dX9_give_1 fF_RX9_19 rfl rfl ?_
  refine a_iload_n dX9_give_4 rfl ?_
  exact a_callV1 dX9_give_5 (dh_Y_up cY_RX9_173 (by decide)) rfl rfl (Nat.le_of_ble_eq_true rfl) k
theorem e_X9_give {G : dh_G} {x1 x2 : Int32} {h : dh_H} {Q : Option Value → dh_H → Prop} (k : dh_C G mX5_hasDummy [.ref 3, .int (x1)] h (fun v h1 => dh_J G mX9_give 8 [some (.ref 0), some (.int (x1)), some (.int (x2))] (v.toList ++ []) h1 Q)) : dh_C G mX9_give [.ref 0, .int (x1), .int (x2)] h Q := dh_C_of [some (.ref 0), some (.int (x1)), some (.int (x2))] (by decide) (Nat.le_of_ble_eq_true rfl) rfl (w_X9_give_0 k)
set_option maxRecDepth 100000 in
theorem w_X9_give_8 {G : dh_G} {x1 x2 s0 : Int32} {h : dh_H} {Q : Option Value → dh_H → Prop} (k : ((s0 = 0) → Q (some (.int ((-1000000001 : Int32)))) h) ∧ ((¬ s0 = 0) → dh_C G mX5_hasChild [.ref 3, .int (x2)] h (fun v h1 => dh_J G mX9_give 19 [some (.ref 0), some (.int (x1)), some (.int (x2))] (v.toList ++ []) h1 Q))) : dh_J G mX9_give 8 [some (.ref 0), some (.int (x1)), some (.int (x2))] [.int (s0)] h Q := by
  refine a_if_eq 22 dX9_give_8 (by decide) (fun c1 => ?_) (fun c1 => ?_)
  · replace k := k.1 c1
    refine a_ldc dX9_give_22 (v := (-1000000001 : Int32)) kK_RX9_154 ?_
    exact a_iret dX9_give_24 rfl k
  · replace k := k.2 c1
    refine a_aload_n dX9_give_11 rfl ?_
    refine a_getR dX9_give_12 fF_RX9_19 rfl rfl ?_
    refine a_iload_n dX9_give_15 rfl ?_
    exact a_callV1 dX9_give_16 (dh_Y_up cY_RX9_151 (by decide)) rfl rfl (Nat.le_of_ble_eq_true rfl) k
set_option maxRecDepth 100000 in
theorem w_X9_give_19 {G : dh_G} {x1 x2 s0 : Int32} {h : dh_H} {Q : Option Value → dh_H → Prop} (k : ((¬ s0 = 0) → dh_C G mX8_canHand [.ref 19, .int (x1), .int (x2)] h (fun v h1 => dh_J G mX9_give 34 [some (.ref 0), some (.int (x1)), some (.int (x2))] (v.toList ++ []) h1 Q)) ∧ ((s0 = 0) → Q (some (.int ((-1000000001 : Int32)))) h)) : dh_J G mX9_give 19 [some (.ref 0), some (.int (x1)), some (.int (x2))] [.int (s0)] h Q := by
  refine a_if_ne 25 dX9_give_19 (by decide) (fun c1 => ?_) (fun c1 => ?_)
  · replace k := k.1 c1
    refine a_aload_n dX9_give_25 rfl ?_
    refine a_getR dX9_give_26 fF_RX9_31 rfl rfl ?_
    refine a_iload_n dX9_give_29 rfl ?_
    refine a_iload_n dX9_give_30 rfl ?_
    exact a_callV2 dX9_give_31 (dh_Y_up cY_RX9_210 (by decide)) rfl rfl (Nat.le_of_ble_eq_true rfl) k
  · replace k := k.2 c1
    refine a_ldc dX9_give_22 (v := (-1000000001 : Int32)) kK_RX9_154 ?_
    exact a_iret dX9_give_24 rfl k
set_option maxRecDepth 100000 in
theorem w_X9_give_34 {G : dh_G} {x1 x2 s0 : Int32} {h : dh_H} {Q : Option Value → dh_H → Prop} (k : ((¬ s0 = 0) → dh_C G mX4_remember [.ref 25, .ref 19] h (fun v h1 => dh_J G mX9_give 51 [some (.ref 0), some (.int (x1)), some (.int (x2))] (v.toList ++ []) h1 Q)) ∧ ((s0 = 0) → Q (some (.int ((-1000000003 : Int32)))) h)) : dh_J G mX9_give 34 [some (.ref 0), some (.int (x1)), some (.int (x2))] [.int (s0)] h Q := by
  refine a_if_ne 40 dX9_give_34 (by decide) (fun c1 => ?_) (fun c1 => ?_)
  · replace k := k.1 c1
    refine a_aload_n dX9_give_40 rfl ?_
    refine a_getR dX9_give_41 fF_RX9_38 rfl rfl ?_
    refine a_aload_n dX9_give_44 rfl ?_
    refine a_getR dX9_give_45 fF_RX9_31 rfl rfl ?_
    exact a_callV1 dX9_give_48 (dh_Y_up cY_RX9_203 (by decide)) rfl rfl (Nat.le_of_ble_eq_true rfl) k
  · replace k := k.2 c1
    refine a_ldc dX9_give_37 (v := (-1000000003 : Int32)) kK_RX9_214 ?_
    exact a_iret dX9_give_39 rfl k
set_option maxRecDepth 100000 in
theorem w_X9_give_51 {G : dh_G} {x1 x2 : Int32} {h : dh_H} {Q : Option Value → dh_H → Prop} (k : dh_C G mX8_hand [.ref 19, .int (x1), .int (x2)] h (fun v h1 => dh_J G mX9_give 60 [some (.ref 0), some (.int (x1)), some (.int (x2))] (v.toList ++ []) h1 Q)) : dh_J G mX9_give 51 [some (.ref 0), some (.int (x1)), some (.int (x2))] [] h Q := by
  refine a_aload_n dX9_give_51 rfl ?_
  refine a_getR dX9_give_52 fF_RX9_31 rfl rfl ?_
  refine a_iload_n dX9_give_55 rfl ?_
  refine a_iload_n dX9_give_56 rfl ?_
  exact a_callV2 dX9_give_57 (dh_Y_up cY_RX9_215 (by decide)) rfl rfl (Nat.le_of_ble_eq_true rfl) k
set_option maxRecDepth 100000 in
theorem w_X9_give_60 {G : dh_G} {x1 x2 : Int32} {h : dh_H} {Q : Option Value → dh_H → Prop} (k : dh_C G mX5_takes [.ref 3, .int (x2), .int (x1)] h (fun v h1 => dh_J G mX9_give 69 [none, none, none] (v.toList ++ []) h1 Q)) : dh_J G mX9_give 60 [some (.ref 0), some (.int (x1)), some (.int (x2))] [] h Q := by
  refine a_aload_n dX9_give_60 rfl ?_
  refine a_getR dX9_give_61 fF_RX9_19 rfl rfl ?_
  refine a_iload_n dX9_give_64 rfl ?_
  refine a_iload_n dX9_give_65 rfl ?_
  refine dh_drop 0 ?_
  refine dh_drop 1 ?_
  refine dh_drop 2 ?_
  exact a_callV2 dX9_give_66 (dh_Y_up cY_RX9_219 (by decide)) rfl rfl (Nat.le_of_ble_eq_true rfl) k
set_option maxRecDepth 100000 in
theorem w_X9_give_69 {G : dh_G} {s0 : Int32} {h : dh_H} {Q : Option Value → dh_H → Prop} (k : ((s0 = 0) → Q (some (.int (nI 0))) h) ∧ ((¬ s0 = 0) → Q (some (.int (nI 1))) h)) : dh_J G mX9_give 69 [none, none, none] [.int (s0)] h Q := by
  refine a_if_eq 76 dX9_give_69 (by decide) (fun c1 => ?_) (fun c1 => ?_)
  · replace k := k.1 c1
    refine a_iconst dX9_give_76 (v := nI 0) (by decide) ?_
    exact a_iret dX9_give_77 rfl k
  · replace k := k.2 c1
    refine a_iconst dX9_give_72 (v := nI 1) (by decide) ?_
    refine a_goto 77 dX9_give_73 (by decide) ?_
    exact a_iret dX9_give_77 rfl k
set_option maxRecDepth 100000 in
theorem w_X9_drop_0 {G : dh_G} {x1 : Int32} {h : dh_H} {Q : Option Value → dh_H → Prop} (k : dh_C G mX5_hasDummy [.ref 3, .int (x1)] h (fun v h1 => dh_J G mX9_drop 8 [some (.ref 0), some (.int (x1)), none] (v.toList ++ []) h1 Q)) : dh_J G mX9_drop 0 [some (.ref 0), some (.int (x1)), none] [] h Q := by
  refine a_aload_n dX9_drop_0 rfl ?_
  refine a_getR dX9_drop_1 fF_RX9_19 rfl rfl ?_
  refine a_iload_n dX9_drop_4 rfl ?_
  exact a_callV1 dX9_drop_5 (dh_Y_up cY_RX9_173 (by decide)) rfl rfl (Nat.le_of_ble_eq_true rfl) k
theorem e_X9_drop {G : dh_G} {x1 : Int32} {h : dh_H} {Q : Option Value → dh_H → Prop} (k : dh_C G mX5_hasDummy [.ref 3, .int (x1)] h (fun v h1 => dh_J G mX9_drop 8 [some (.ref 0), some (.int (x1)), none] (v.toList ++ []) h1 Q)) : dh_C G mX9_drop [.ref 0, .int (x1)] h Q := dh_C_of [some (.ref 0), some (.int (x1)), none] (by decide) (Nat.le_of_ble_eq_true rfl) rfl (w_X9_drop_0 k)
set_option maxRecDepth 100000 in
theorem w_X9_drop_8 {G : dh_G} {x1 s0 : Int32} {h : dh_H} {Q : Option Value → dh_H → Prop} (k : ((¬ s0 = 0) → dh_C G mX8_holderOf [.ref 19, .int (x1)] h (fun v h1 => dh_J G mX9_drop 22 [some (.ref 0), some (.int (x1)), none] (v.toList ++ []) h1 Q)) ∧ ((s0 = 0) → Q (some (.int ((-1000000001 : Int32)))) h)) : dh_J G mX9_drop 8 [some (.ref 0), some (.int (x1)), none] [.int (s0)] h Q := by
  refine a_if_ne 14 dX9_drop_8 (by decide) (fun c1 => ?_) (fun c1 => ?_)
  · replace k := k.1 c1
    refine a_aload_n dX9_drop_14 rfl ?_
    refine a_getR dX9_drop_15 fF_RX9_31 rfl rfl ?_
    refine a_iload_n dX9_drop_18 rfl ?_
    exact a_callV1 dX9_drop_19 (dh_Y_up cY_RX9_188 (by decide)) rfl rfl (Nat.le_of_ble_eq_true rfl) k
  · replace k := k.2 c1
    refine a_ldc dX9_drop_11 (v := (-1000000001 : Int32)) kK_RX9_154 ?_
    exact a_iret dX9_drop_13 rfl k
set_option maxRecDepth 100000 in
theorem w_X9_drop_22 {G : dh_G} {x1 s0 : Int32} {h : dh_H} {Q : Option Value → dh_H → Prop} (k : ((¬ s0 = (-1 : Int32)) → dh_C G mX4_remember [.ref 25, .ref 19] h (fun v h1 => dh_J G mX9_drop 42 [some (.ref 0), some (.int (x1)), some (.int (s0))] (v.toList ++ []) h1 Q)) ∧ ((s0 = (-1 : Int32)) → Q (some (.int ((-1000000003 : Int32)))) h)) : dh_J G mX9_drop 22 [some (.ref 0), some (.int (x1)), none] [.int (s0)] h Q := by
  refine a_istore_n dX9_drop_22 (by decide) rfl ?_
  refine a_iload_n dX9_drop_23 rfl ?_
  refine a_iconst dX9_drop_24 (v := (-1 : Int32)) (by decide) ?_
  refine a_icmp_ne 31 dX9_drop_25 (by decide) (fun c1 => ?_) (fun c1 => ?_)
  · replace k := k.1 c1
    refine a_aload_n dX9_drop_31 rfl ?_
    refine a_getR dX9_drop_32 fF_RX9_38 rfl rfl ?_
    refine a_aload_n dX9_drop_35 rfl ?_
    refine a_getR dX9_drop_36 fF_RX9_31 rfl rfl ?_
    exact a_callV1 dX9_drop_39 (dh_Y_up cY_RX9_203 (by decide)) rfl rfl (Nat.le_of_ble_eq_true rfl) k
  · replace k := k.2 c1
    refine a_ldc dX9_drop_28 (v := (-1000000003 : Int32)) kK_RX9_214 ?_
    exact a_iret dX9_drop_30 rfl k
set_option maxRecDepth 100000 in
theorem w_X9_drop_42 {G : dh_G} {x1 x2 : Int32} {h : dh_H} {Q : Option Value → dh_H → Prop} (k : (vp_in x1 6) ∧ Q (some (.int (x2))) (dh_s h 20 x1.toNatClampNeg (-2 : Int32))) : dh_J G mX9_drop 42 [some (.ref 0), some (.int (x1)), some (.int (x2))] [] h Q := by
  refine a_aload_n dX9_drop_42 rfl ?_
  refine a_getR dX9_drop_43 fF_RX9_31 rfl rfl ?_
  refine a_getR dX9_drop_46 fF_RX9_222 rfl rfl ?_
  refine a_iload_n dX9_drop_49 rfl ?_
  refine a_bipush dX9_drop_50 (v := (-2 : Int32)) (by decide) ?_
  obtain ⟨e1, k⟩ := k
  refine a_iast dX9_drop_52 rfl e1 ?_
  refine a_iload_n dX9_drop_53 rfl ?_
  exact a_iret dX9_drop_54 rfl k
set_option maxRecDepth 100000 in
theorem w_X9_pick_0 {G : dh_G} {x1 : Int32} {h : dh_H} {Q : Option Value → dh_H → Prop} (k : dh_C G mX5_hasDummy [.ref 3, .int (x1)] h (fun v h1 => dh_J G mX9_pick 8 [some (.ref 0), some (.int (x1))] (v.toList ++ []) h1 Q)) : dh_J G mX9_pick 0 [some (.ref 0), some (.int (x1))] [] h Q := by
  refine a_aload_n dX9_pick_0 rfl ?_
  refine a_getR dX9_pick_1 fF_RX9_19 rfl rfl ?_
  refine a_iload_n dX9_pick_4 rfl ?_
  exact a_callV1 dX9_pick_5 (dh_Y_up cY_RX9_173 (by decide)) rfl rfl (Nat.le_of_ble_eq_true rfl) k
theorem e_X9_pick {G : dh_G} {x1 : Int32} {h : dh_H} {Q : Option Value → dh_H → Prop} (k : dh_C G mX5_hasDummy [.ref 3, .int (x1)] h (fun v h1 => dh_J G mX9_pick 8 [some (.ref 0), some (.int (x1))] (v.toList ++ []) h1 Q)) : dh_C G mX9_pick [.ref 0, .int (x1)] h Q := dh_C_of [some (.ref 0), some (.int (x1))] (by decide) (Nat.le_of_ble_eq_true rfl) rfl (w_X9_pick_0 k)
set_option maxRecDepth 100000 in
theorem w_X9_pick_8 {G : dh_G} {x1 s0 : Int32} {h : dh_H} {Q : Option Value → dh_H → Prop} (k : ((¬ s0 = 0) → (vp_in x1 6) ∧ (((h 20 x1.toNatClampNeg) = (-2 : Int32)) → dh_C G mX4_remember [.ref 25, .ref 19] h (fun v h1 => dh_J G mX9_pick 42 [some (.ref 0), some (.int (x1))] (v.toList ++ []) h1 Q)) ∧ ((¬ (h 20 x1.toNatClampNeg) = (-2 : Int32)) → Q (some (.int ((-1000000003 : Int32)))) h)) ∧ ((s0 = 0) → Q (some (.int ((-1000000001 : Int32)))) h)) : dh_J G mX9_pick 8 [some (.ref 0), some (.int (x1))] [.int (s0)] h Q := by
  refine a_if_ne 14 dX9_pick_8 (by decide) (fun c1 => ?_) (fun c1 => ?_)
  · replace k := k.1 c1
    refine a_aload_n dX9_pick_14 rfl ?_
    refine a_getR dX9_pick_15 fF_RX9_31 rfl rfl ?_
    refine a_getR dX9_pick_18 fF_RX9_222 rfl rfl ?_
    refine a_iload_n dX9_pick_21 rfl ?_
    obtain ⟨e2, k⟩ := k
    refine a_iald dX9_pick_22 rfl e2 ?_
    refine a_bipush dX9_pick_23 (v := (-2 : Int32)) (by decide) ?_
    refine a_icmp_eq 31 dX9_pick_25 (by decide) (fun c3 => ?_) (fun c3 => ?_)
    · replace k := k.1 c3
      refine a_aload_n dX9_pick_31 rfl ?_
      refine a_getR dX9_pick_32 fF_RX9_38 rfl rfl ?_
      refine a_aload_n dX9_pick_35 rfl ?_
      refine a_getR dX9_pick_36 fF_RX9_31 rfl rfl ?_
      exact a_callV1 dX9_pick_39 (dh_Y_up cY_RX9_203 (by decide)) rfl rfl (Nat.le_of_ble_eq_true rfl) k
    · replace k := k.2 c3
      refine a_ldc dX9_pick_28 (v := (-1000000003 : Int32)) kK_RX9_214 ?_
      exact a_iret dX9_pick_30 rfl k
  · replace k := k.2 c1
    refine a_ldc dX9_pick_11 (v := (-1000000001 : Int32)) kK_RX9_154 ?_
    exact a_iret dX9_pick_13 rfl k
set_option maxRecDepth 100000 in
theorem w_X9_pick_42 {G : dh_G} {x1 : Int32} {h : dh_H} {Q : Option Value → dh_H → Prop} (k : (vp_in x1 6) ∧ dh_C G mX8_setAt [.ref 19, .int ((-2 : Int32))] (dh_s h 20 x1.toNatClampNeg (-1 : Int32)) (fun v h1 => dh_J G mX9_pick 61 [none, none] (v.toList ++ []) h1 Q)) : dh_J G mX9_pick 42 [some (.ref 0), some (.int (x1))] [] h Q := by
  refine a_aload_n dX9_pick_42 rfl ?_
  refine a_getR dX9_pick_43 fF_RX9_31 rfl rfl ?_
  refine a_getR dX9_pick_46 fF_RX9_222 rfl rfl ?_
  refine a_iload_n dX9_pick_49 rfl ?_
  refine a_iconst dX9_pick_50 (v := (-1 : Int32)) (by decide) ?_
  obtain ⟨e1, k⟩ := k
  refine a_iast dX9_pick_51 rfl e1 ?_
  refine a_aload_n dX9_pick_52 rfl ?_
  refine a_getR dX9_pick_53 fF_RX9_31 rfl rfl ?_
  refine a_bipush dX9_pick_56 (v := (-2 : Int32)) (by decide) ?_
  refine dh_drop 0 ?_
  refine dh_drop 1 ?_
  exact a_callV1 dX9_pick_58 (dh_Y_up cY_RX9_142 (by decide)) rfl rfl (Nat.le_of_ble_eq_true rfl) k
set_option maxRecDepth 100000 in
theorem w_X9_pick_61 {G : dh_G} {s0 : Int32} {h : dh_H} {Q : Option Value → dh_H → Prop} (k : Q (some (.int (s0))) h) : dh_J G mX9_pick 61 [none, none] [.int (s0)] h Q := by
  exact a_iret dX9_pick_61 rfl k
set_option maxRecDepth 100000 in
theorem w_X9_boil_0 {G : dh_G} {h : dh_H} {Q : Option Value → dh_H → Prop} (k : dh_C G mX8_setAt [.ref 19, .int ((-1 : Int32))] h (fun v h1 => dh_J G mX9_boil 8 [some (.ref 0), none] (v.toList ++ []) h1 Q)) : dh_J G mX9_boil 0 [some (.ref 0), none] [] h Q := by
  refine a_aload_n dX9_boil_0 rfl ?_
  refine a_getR dX9_boil_1 fF_RX9_31 rfl rfl ?_
  refine a_iconst dX9_boil_4 (v := (-1 : Int32)) (by decide) ?_
  exact a_callV1 dX9_boil_5 (dh_Y_up cY_RX9_142 (by decide)) rfl rfl (Nat.le_of_ble_eq_true rfl) k
theorem e_X9_boil {G : dh_G} {h : dh_H} {Q : Option Value → dh_H → Prop} (k : dh_C G mX8_setAt [.ref 19, .int ((-1 : Int32))] h (fun v h1 => dh_J G mX9_boil 8 [some (.ref 0), none] (v.toList ++ []) h1 Q)) : dh_C G mX9_boil [.ref 0] h Q := dh_C_of [some (.ref 0), none] (by decide) (Nat.le_of_ble_eq_true rfl) rfl (w_X9_boil_0 k)
set_option maxRecDepth 100000 in
theorem w_X9_boil_8 {G : dh_G} {s0 : Int32} {h : dh_H} {Q : Option Value → dh_H → Prop} (k : ((¬ s0 = 0) → dh_C G mX4_remember [.ref 25, .ref 19] h (fun v h1 => dh_J G mX9_boil 27 [some (.ref 0), some (.int (s0))] (v.toList ++ []) h1 Q)) ∧ ((s0 = 0) → Q (some (.int ((-1000000003 : Int32)))) h)) : dh_J G mX9_boil 8 [some (.ref 0), none] [.int (s0)] h Q := by
  refine a_istore_n dX9_boil_8 (by decide) rfl ?_
  refine a_iload_n dX9_boil_9 rfl ?_
  refine a_if_ne 16 dX9_boil_10 (by decide) (fun c1 => ?_) (fun c1 => ?_)
  · replace k := k.1 c1
    refine a_aload_n dX9_boil_16 rfl ?_
    refine a_getR dX9_boil_17 fF_RX9_38 rfl rfl ?_
    refine a_aload_n dX9_boil_20 rfl ?_
    refine a_getR dX9_boil_21 fF_RX9_31 rfl rfl ?_
    exact a_callV1 dX9_boil_24 (dh_Y_up cY_RX9_203 (by decide)) rfl rfl (Nat.le_of_ble_eq_true rfl) k
  · replace k := k.2 c1
    refine a_ldc dX9_boil_13 (v := (-1000000003 : Int32)) kK_RX9_214 ?_
    exact a_iret dX9_boil_15 rfl k
set_option maxRecDepth 100000 in
theorem w_X9_boil_27 {G : dh_G} {x1 : Int32} {h : dh_H} {Q : Option Value → dh_H → Prop} (k : dh_C G mX8_boilAll [.ref 19, .int (x1)] h (fun v h1 => dh_J G mX9_boil 35 [none, some (.int (x1))] (v.toList ++ []) h1 Q)) : dh_J G mX9_boil 27 [some (.ref 0), some (.int (x1))] [] h Q := by
  refine a_aload_n dX9_boil_27 rfl ?_
  refine a_getR dX9_boil_28 fF_RX9_31 rfl rfl ?_
  refine a_iload_n dX9_boil_31 rfl ?_
  refine dh_drop 0 ?_
  exact a_callV1 dX9_boil_32 (dh_Y_up cY_RX9_225 (by decide)) rfl rfl (Nat.le_of_ble_eq_true rfl) k
set_option maxRecDepth 100000 in
theorem w_X9_boil_35 {G : dh_G} {x1 : Int32} {h : dh_H} {Q : Option Value → dh_H → Prop} (k : Q (some (.int (x1))) h) : dh_J G mX9_boil 35 [none, some (.int (x1))] [] h Q := by
  refine a_iload_n dX9_boil_35 rfl ?_
  exact a_iret dX9_boil_36 rfl k
set_option maxRecDepth 100000 in
theorem w_X9_cold_0 {G : dh_G} {x1 : Int32} {h : dh_H} {Q : Option Value → dh_H → Prop} (k : dh_C G mX5_hasChild [.ref 3, .int (x1)] h (fun v h1 => dh_J G mX9_cold 8 [some (.ref 0), some (.int (x1))] (v.toList ++ []) h1 Q)) : dh_J G mX9_cold 0 [some (.ref 0), some (.int (x1))] [] h Q := by
  refine a_aload_n dX9_cold_0 rfl ?_
  refine a_getR dX9_cold_1 fF_RX9_19 rfl rfl ?_
  refine a_iload_n dX9_cold_4 rfl ?_
  exact a_callV1 dX9_cold_5 (dh_Y_up cY_RX9_151 (by decide)) rfl rfl (Nat.le_of_ble_eq_true rfl) k
theorem e_X9_cold {G : dh_G} {x1 : Int32} {h : dh_H} {Q : Option Value → dh_H → Prop} (k : dh_C G mX5_hasChild [.ref 3, .int (x1)] h (fun v h1 => dh_J G mX9_cold 8 [some (.ref 0), some (.int (x1))] (v.toList ++ []) h1 Q)) : dh_C G mX9_cold [.ref 0, .int (x1)] h Q := dh_C_of [some (.ref 0), some (.int (x1))] (by decide) (Nat.le_of_ble_eq_true rfl) rfl (w_X9_cold_0 k)
set_option maxRecDepth 100000 in
theorem w_X9_cold_8 {G : dh_G} {x1 s0 : Int32} {h : dh_H} {Q : Option Value → dh_H → Prop} (k : ((¬ s0 = 0) → dh_C G mX4_remember [.ref 25, .ref 19] h (fun v h1 => dh_J G mX9_cold 25 [some (.ref 0), some (.int (x1))] (v.toList ++ []) h1 Q)) ∧ ((s0 = 0) → Q (some (.int ((-1000000001 : Int32)))) h)) : dh_J G mX9_cold 8 [some (.ref 0), some (.int (x1))] [.int (s0)] h Q := by
  refine a_if_ne 14 dX9_cold_8 (by decide) (fun c1 => ?_) (fun c1 => ?_)
  · replace k := k.1 c1
    refine a_aload_n dX9_cold_14 rfl ?_
    refine a_getR dX9_cold_15 fF_RX9_38 rfl rfl ?_
    refine a_aload_n dX9_cold_18 rfl ?_
    refine a_getR dX9_cold_19 fF_RX9_31 rfl rfl ?_
    exact a_callV1 dX9_cold_22 (dh_Y_up cY_RX9_203 (by decide)) rfl rfl (Nat.le_of_ble_eq_true rfl) k
  · replace k := k.2 c1
    refine a_ldc dX9_cold_11 (v := (-1000000001 : Int32)) kK_RX9_154 ?_
    exact a_iret dX9_cold_13 rfl k
set_option maxRecDepth 100000 in
theorem w_X9_cold_25 {G : dh_G} {x1 : Int32} {h : dh_H} {Q : Option Value → dh_H → Prop} (k : (vp_in x1 6) ∧ (vp_in x1 6) ∧ Q (some (.int ((dh_s h 23 x1.toNatClampNeg (h 3 1)) 23 x1.toNatClampNeg))) (dh_s h 23 x1.toNatClampNeg (h 3 1))) : dh_J G mX9_cold 25 [some (.ref 0), some (.int (x1))] [] h Q := by
  refine a_aload_n dX9_cold_25 rfl ?_
  refine a_getR dX9_cold_26 fF_RX9_31 rfl rfl ?_
  refine a_getR dX9_cold_29 fF_RX9_167 rfl rfl ?_
  refine a_iload_n dX9_cold_32 rfl ?_
  refine a_aload_n dX9_cold_33 rfl ?_
  refine a_getR dX9_cold_34 fF_RX9_19 rfl rfl ?_
  refine a_getI dX9_cold_37 fF_RX9_123 rfl rfl ?_
  obtain ⟨e1, k⟩ := k
  refine a_iast dX9_cold_40 rfl e1 ?_
  refine a_aload_n dX9_cold_41 rfl ?_
  refine a_getR dX9_cold_42 fF_RX9_31 rfl rfl ?_
  refine a_getR dX9_cold_45 fF_RX9_167 rfl rfl ?_
  refine a_iload_n dX9_cold_48 rfl ?_
  obtain ⟨e2, k⟩ := k
  refine a_iald dX9_cold_49 rfl e2 ?_
  exact a_iret dX9_cold_50 rfl k
set_option maxRecDepth 100000 in
theorem w_X9_drift_0 {G : dh_G} {x1 : Int32} {h : dh_H} {Q : Option Value → dh_H → Prop} (k : dh_C G mX9_refusalOfHours [.ref 0, .int (x1)] h (fun v h1 => dh_J G mX9_drift 5 [some (.ref 0), some (.int (x1)), none, none] (v.toList ++ []) h1 Q)) : dh_J G mX9_drift 0 [some (.ref 0), some (.int (x1)), none, none] [] h Q := by
  refine a_aload_n dX9_drift_0 rfl ?_
  refine a_iload_n dX9_drift_1 rfl ?_
  exact a_callV1 dX9_drift_2 (dh_Y_up cY_RX9_200 (by decide)) rfl rfl (Nat.le_of_ble_eq_true rfl) k
theorem e_X9_drift {G : dh_G} {x1 : Int32} {h : dh_H} {Q : Option Value → dh_H → Prop} (k : dh_C G mX9_refusalOfHours [.ref 0, .int (x1)] h (fun v h1 => dh_J G mX9_drift 5 [some (.ref 0), some (.int (x1)), none, none] (v.toList ++ []) h1 Q)) : dh_C G mX9_drift [.ref 0, .int (x1)] h Q := dh_C_of [some (.ref 0), some (.int (x1)), none, none] (by decide) (Nat.le_of_ble_eq_true rfl) rfl (w_X9_drift_0 k)
set_option maxRecDepth 100000 in
theorem w_X9_drift_5 {G : dh_G} {x1 s0 : Int32} {h : dh_H} {Q : Option Value → dh_H → Prop} (k : ((s0 = 0) → dh_C G mX4_remember [.ref 25, .ref 19] h (fun v h1 => dh_J G mX9_drift 23 [some (.ref 0), some (.int (x1)), none, none] (v.toList ++ []) h1 Q)) ∧ ((¬ s0 = 0) → Q (some (.int (s0))) h)) : dh_J G mX9_drift 5 [some (.ref 0), some (.int (x1)), none, none] [.int (s0)] h Q := by
  refine a_istore_n dX9_drift_5 (by decide) rfl ?_
  refine a_iload_n dX9_drift_6 rfl ?_
  refine a_if_eq 12 dX9_drift_7 (by decide) (fun c1 => ?_) (fun c1 => ?_)
  · replace k := k.1 c1
    refine a_aload_n dX9_drift_12 rfl ?_
    refine a_getR dX9_drift_13 fF_RX9_38 rfl rfl ?_
    refine a_aload_n dX9_drift_16 rfl ?_
    refine a_getR dX9_drift_17 fF_RX9_31 rfl rfl ?_
    refine dh_drop 2 ?_
    exact a_callV1 dX9_drift_20 (dh_Y_up cY_RX9_203 (by decide)) rfl rfl (Nat.le_of_ble_eq_true rfl) k
  · replace k := k.2 c1
    refine a_iload_n dX9_drift_10 rfl ?_
    exact a_iret dX9_drift_11 rfl k
set_option maxRecDepth 100000 in
theorem w_X9_drift_23 {G : dh_G} {x1 : Int32} {h : dh_H} {Q : Option Value → dh_H → Prop} (k : dh_J G mX9_drift 25 [some (.ref 0), some (.int (x1)), none, some (.int (nI 0))] [] h Q) : dh_J G mX9_drift 23 [some (.ref 0), some (.int (x1)), none, none] [] h Q := by
  refine a_iconst dX9_drift_23 (v := nI 0) (by decide) ?_
  refine a_istore_n dX9_drift_24 (by decide) rfl ?_
  exact k
set_option maxRecDepth 100000 in
theorem w_X9_drift_25 {G : dh_G} {x1 x3 : Int32} {h : dh_H} {Q : Option Value → dh_H → Prop} (k : ((x1 ≤ x3) → dh_C G mX8_calmSet [.ref 19] h (fun v h1 => dh_J G mX9_drift 74 [none, none, none, none] (v.toList ++ []) h1 Q)) ∧ ((¬ x1 ≤ x3) → (((h 3 3) ≤ 0) → dh_J G mX9_drift 54 [some (.ref 0), some (.int (x1)), none, some (.int (x3))] [] h Q) ∧ ((¬ (h 3 3) ≤ 0) → (((h 3 4) ≤ 0) → dh_J G mX9_drift 54 [some (.ref 0), some (.int (x1)), none, some (.int (x3))] [] h Q) ∧ ((¬ (h 3 4) ≤ 0) → dh_C G mX9_deedByDraws [.ref 0] h (fun v h1 => dh_J G mX9_drift 54 [some (.ref 0), some (.int (x1)), none, some (.int (x3))] (v.toList ++ []) h1 Q))))) : dh_J G mX9_drift 25 [some (.ref 0), some (.int (x1)), none, some (.int (x3))] [] h Q := by
  refine a_iload_n dX9_drift_25 rfl ?_
  refine a_iload_n dX9_drift_26 rfl ?_
  refine a_icmp_ge 67 dX9_drift_27 (by decide) (fun c1 => ?_) (fun c1 => ?_)
  · replace k := k.1 c1
    refine a_aload_n dX9_drift_67 rfl ?_
    refine a_getR dX9_drift_68 fF_RX9_31 rfl rfl ?_
    refine dh_drop 0 ?_
    refine dh_drop 1 ?_
    refine dh_drop 3 ?_
    exact a_callV0 dX9_drift_71 (dh_Y_up cY_RX9_135 (by decide)) rfl rfl (Nat.le_of_ble_eq_true rfl) k
  · replace k := k.2 c1
    refine a_aload_n dX9_drift_30 rfl ?_
    refine a_getR dX9_drift_31 fF_RX9_19 rfl rfl ?_
    refine a_getI dX9_drift_34 fF_RX9_117 rfl rfl ?_
    refine a_if_le 54 dX9_drift_37 (by decide) (fun c2 => ?_) (fun c2 => ?_)
    · replace k := k.1 c2
      exact k
    · replace k := k.2 c2
      refine a_aload_n dX9_drift_40 rfl ?_
      refine a_getR dX9_drift_41 fF_RX9_19 rfl rfl ?_
      refine a_getI dX9_drift_44 fF_RX9_129 rfl rfl ?_
      refine a_if_le 54 dX9_drift_47 (by decide) (fun c3 => ?_) (fun c3 => ?_)
      · replace k := k.1 c3
        exact k
      · replace k := k.2 c3
        refine a_aload_n dX9_drift_50 rfl ?_
        exact a_callV0 dX9_drift_51 (dh_Y_up cY_RX9_229 (by decide)) rfl rfl (Nat.le_of_ble_eq_true rfl) k
set_option maxRecDepth 100000 in
theorem w_X9_drift_54 {G : dh_G} {x1 x3 : Int32} {h : dh_H} {Q : Option Value → dh_H → Prop} (k : dh_C G mX8_passHour [.ref 19] h (fun v h1 => dh_J G mX9_drift 61 [some (.ref 0), some (.int (x1)), none, some (.int (x3))] (v.toList ++ []) h1 Q)) : dh_J G mX9_drift 54 [some (.ref 0), some (.int (x1)), none, some (.int (x3))] [] h Q := by
  refine a_aload_n dX9_drift_54 rfl ?_
  refine a_getR dX9_drift_55 fF_RX9_31 rfl rfl ?_
  exact a_callV0 dX9_drift_58 (dh_Y_up cY_RX9_207 (by decide)) rfl rfl (Nat.le_of_ble_eq_true rfl) k
set_option maxRecDepth 100000 in
theorem w_X9_drift_61 {G : dh_G} {x1 x3 : Int32} {h : dh_H} {Q : Option Value → dh_H → Prop} (k : dh_J G mX9_drift 25 [some (.ref 0), some (.int (x1)), none, some (.int (x3 + (nI 1)))] [] h Q) : dh_J G mX9_drift 61 [some (.ref 0), some (.int (x1)), none, some (.int (x3))] [] h Q := by
  refine a_iinc dX9_drift_61 (v := x3 + (nI 1)) rfl (by rfl) (by decide) rfl ?_
  refine a_goto 25 dX9_drift_64 (by decide) ?_
  exact k
set_option maxRecDepth 100000 in
theorem w_X9_drift_74 {G : dh_G} {s0 : Int32} {h : dh_H} {Q : Option Value → dh_H → Prop} (k : Q (some (.int (s0))) h) : dh_J G mX9_drift 74 [none, none, none, none] [.int (s0)] h Q := by
  exact a_iret dX9_drift_74 rfl k
set_option maxRecDepth 100000 in
theorem w_X9_undo_0 {G : dh_G} {h : dh_H} {Q : Option Value → dh_H → Prop} (k : ((¬ (h 25 2) = 0) → dh_C G mX4_recall [.ref 25, .ref 19] h (fun v h1 => dh_J G mX9_undo 24 [some (.ref 0)] (v.toList ++ []) h1 Q)) ∧ (((h 25 2) = 0) → Q (some (.int ((-1000000003 : Int32)))) h)) : dh_J G mX9_undo 0 [some (.ref 0)] [] h Q := by
  refine a_aload_n dX9_undo_0 rfl ?_
  refine a_getR dX9_undo_1 fF_RX9_38 rfl rfl ?_
  refine a_getI dX9_undo_4 fF_RX9_150 rfl rfl ?_
  refine a_if_ne 13 dX9_undo_7 (by decide) (fun c1 => ?_) (fun c1 => ?_)
  · replace k := k.1 c1
    refine a_aload_n dX9_undo_13 rfl ?_
    refine a_getR dX9_undo_14 fF_RX9_38 rfl rfl ?_
    refine a_aload_n dX9_undo_17 rfl ?_
    refine a_getR dX9_undo_18 fF_RX9_31 rfl rfl ?_
    exact a_callV1 dX9_undo_21 (dh_Y_up cY_RX9_232 (by decide)) rfl rfl (Nat.le_of_ble_eq_true rfl) k
  · replace k := k.2 c1
    refine a_ldc dX9_undo_10 (v := (-1000000003 : Int32)) kK_RX9_214 ?_
    exact a_iret dX9_undo_12 rfl k
theorem e_X9_undo {G : dh_G} {h : dh_H} {Q : Option Value → dh_H → Prop} (k : ((¬ (h 25 2) = 0) → dh_C G mX4_recall [.ref 25, .ref 19] h (fun v h1 => dh_J G mX9_undo 24 [some (.ref 0)] (v.toList ++ []) h1 Q)) ∧ (((h 25 2) = 0) → Q (some (.int ((-1000000003 : Int32)))) h)) : dh_C G mX9_undo [.ref 0] h Q := dh_C_of [some (.ref 0)] (by decide) (Nat.le_of_ble_eq_true rfl) rfl (w_X9_undo_0 k)
set_option maxRecDepth 100000 in
theorem w_X9_undo_24 {G : dh_G} {h : dh_H} {Q : Option Value → dh_H → Prop} (k : Q (some (.int (h 25 2))) h) : dh_J G mX9_undo 24 [some (.ref 0)] [] h Q := by
  refine a_aload_n dX9_undo_24 rfl ?_
  refine a_getR dX9_undo_25 fF_RX9_38 rfl rfl ?_
  refine a_getI dX9_undo_28 fF_RX9_150 rfl rfl ?_
  exact a_iret dX9_undo_31 rfl k
set_option maxRecDepth 100000 in
theorem w_X9_mostCalm_0 {G : dh_G} {x1 x2 : Int32} {h : dh_H} {Q : Option Value → dh_H → Prop} (k : ((x2 = (-1 : Int32)) → dh_C G mX3_prepare [.ref 27, .ref 3, .ref 19, .int (x1)] h (fun v h1 => dh_J G mX9_mostCalm 35 [some (.ref 0), none, some (.int (x2))] (v.toList ++ []) h1 Q)) ∧ ((¬ x2 = (-1 : Int32)) → dh_C G mX5_hasChild [.ref 3, .int (x2)] h (fun v h1 => dh_J G mX9_mostCalm 13 [some (.ref 0), some (.int (x1)), some (.int (x2))] (v.toList ++ []) h1 Q))) : dh_J G mX9_mostCalm 0 [some (.ref 0), some (.int (x1)), some (.int (x2))] [] h Q := by
  refine a_iload_n dX9_mostCalm_0 rfl ?_
  refine a_iconst dX9_mostCalm_1 (v := (-1 : Int32)) (by decide) ?_
  refine a_icmp_eq 19 dX9_mostCalm_2 (by decide) (fun c1 => ?_) (fun c1 => ?_)
  · replace k := k.1 c1
    refine a_aload_n dX9_mostCalm_19 rfl ?_
    refine a_getR dX9_mostCalm_20 fF_RX9_45 rfl rfl ?_
    refine a_aload_n dX9_mostCalm_23 rfl ?_
    refine a_getR dX9_mostCalm_24 fF_RX9_19 rfl rfl ?_
    refine a_aload_n dX9_mostCalm_27 rfl ?_
    refine a_getR dX9_mostCalm_28 fF_RX9_31 rfl rfl ?_
    refine a_iload_n dX9_mostCalm_31 rfl ?_
    refine dh_drop 1 ?_
    exact a_callV3 dX9_mostCalm_32 (dh_Y_up cY_RX9_235 (by decide)) rfl rfl (Nat.le_of_ble_eq_true rfl) k
  · replace k := k.2 c1
    refine a_aload_n dX9_mostCalm_5 rfl ?_
    refine a_getR dX9_mostCalm_6 fF_RX9_19 rfl rfl ?_
    refine a_iload_n dX9_mostCalm_9 rfl ?_
    exact a_callV1 dX9_mostCalm_10 (dh_Y_up cY_RX9_151 (by decide)) rfl rfl (Nat.le_of_ble_eq_true rfl) k
theorem e_X9_mostCalm {G : dh_G} {x1 x2 : Int32} {h : dh_H} {Q : Option Value → dh_H → Prop} (k : ((x2 = (-1 : Int32)) → dh_C G mX3_prepare [.ref 27, .ref 3, .ref 19, .int (x1)] h (fun v h1 => dh_J G mX9_mostCalm 35 [some (.ref 0), none, some (.int (x2))] (v.toList ++ []) h1 Q)) ∧ ((¬ x2 = (-1 : Int32)) → dh_C G mX5_hasChild [.ref 3, .int (x2)] h (fun v h1 => dh_J G mX9_mostCalm 13 [some (.ref 0), some (.int (x1)), some (.int (x2))] (v.toList ++ []) h1 Q))) : dh_C G mX9_mostCalm [.ref 0, .int (x1), .int (x2)] h Q := dh_C_of [some (.ref 0), some (.int (x1)), some (.int (x2))] (by decide) (Nat.le_of_ble_eq_true rfl) rfl (w_X9_mostCalm_0 k)
set_option maxRecDepth 100000 in
theorem w_X9_mostCalm_13 {G : dh_G} {x1 x2 s0 : Int32} {h : dh_H} {Q : Option Value → dh_H → Prop} (k : ((¬ s0 = 0) → dh_C G mX3_prepare [.ref 27, .ref 3, .ref 19, .int (x1)] h (fun v h1 => dh_J G mX9_mostCalm 35 [some (.ref 0), none, some (.int (x2))] (v.toList ++ []) h1 Q)) ∧ ((s0 = 0) → Q (some (.int ((-1000000001 : Int32)))) h)) : dh_J G mX9_mostCalm 13 [some (.ref 0), some (.int (x1)), some (.int (x2))] [.int (s0)] h Q := by
  refine a_if_ne 19 dX9_mostCalm_13 (by decide) (fun c1 => ?_) (fun c1 => ?_)
  · replace k := k.1 c1
    refine a_aload_n dX9_mostCalm_19 rfl ?_
    refine a_getR dX9_mostCalm_20 fF_RX9_45 rfl rfl ?_
    refine a_aload_n dX9_mostCalm_23 rfl ?_
    refine a_getR dX9_mostCalm_24 fF_RX9_19 rfl rfl ?_
    refine a_aload_n dX9_mostCalm_27 rfl ?_
    refine a_getR dX9_mostCalm_28 fF_RX9_31 rfl rfl ?_
    refine a_iload_n dX9_mostCalm_31 rfl ?_
    refine dh_drop 1 ?_
    exact a_callV3 dX9_mostCalm_32 (dh_Y_up cY_RX9_235 (by decide)) rfl rfl (Nat.le_of_ble_eq_true rfl) k
  · replace k := k.2 c1
    refine a_ldc dX9_mostCalm_16 (v := (-1000000001 : Int32)) kK_RX9_154 ?_
    exact a_iret dX9_mostCalm_18 rfl k
set_option maxRecDepth 100000 in
theorem w_X9_mostCalm_35 {G : dh_G} {x2 : Int32} {h : dh_H} {Q : Option Value → dh_H → Prop} (k : ((¬ x2 = (-1 : Int32)) → dh_C G mX3_dummyFor [.ref 27, .int (x2)] h (fun v h1 => dh_J G mX9_mostCalm 59 [none, none, none] (v.toList ++ []) h1 Q)) ∧ ((x2 = (-1 : Int32)) → dh_C G mX3_most [.ref 27, .int (nI 0)] h (fun v h1 => dh_J G mX9_mostCalm 48 [none, none, none] (v.toList ++ []) h1 Q))) : dh_J G mX9_mostCalm 35 [some (.ref 0), none, some (.int (x2))] [] h Q := by
  refine a_iload_n dX9_mostCalm_35 rfl ?_
  refine a_iconst dX9_mostCalm_36 (v := (-1 : Int32)) (by decide) ?_
  refine a_icmp_ne 51 dX9_mostCalm_37 (by decide) (fun c1 => ?_) (fun c1 => ?_)
  · replace k := k.1 c1
    refine a_aload_n dX9_mostCalm_51 rfl ?_
    refine a_getR dX9_mostCalm_52 fF_RX9_45 rfl rfl ?_
    refine a_iload_n dX9_mostCalm_55 rfl ?_
    refine dh_drop 0 ?_
    refine dh_drop 2 ?_
    exact a_callV1 dX9_mostCalm_56 (dh_Y_up cY_RX9_242 (by decide)) rfl rfl (Nat.le_of_ble_eq_true rfl) k
  · replace k := k.2 c1
    refine a_aload_n dX9_mostCalm_40 rfl ?_
    refine a_getR dX9_mostCalm_41 fF_RX9_45 rfl rfl ?_
    refine a_iconst dX9_mostCalm_44 (v := nI 0) (by decide) ?_
    refine dh_drop 0 ?_
    refine dh_drop 2 ?_
    exact a_callV1 dX9_mostCalm_45 (dh_Y_up cY_RX9_239 (by decide)) rfl rfl (Nat.le_of_ble_eq_true rfl) k
set_option maxRecDepth 100000 in
theorem w_X9_mostCalm_48 {G : dh_G} {s0 : Int32} {h : dh_H} {Q : Option Value → dh_H → Prop} (k : dh_J G mX9_mostCalm 59 [none, none, none] [.int (s0)] h Q) : dh_J G mX9_mostCalm 48 [none, none, none] [.int (s0)] h Q := by
  refine a_goto 59 dX9_mostCalm_48 (by decide) ?_
  exact k
set_option maxRecDepth 100000 in
theorem w_X9_mostCalm_59 {G : dh_G} {s0 : Int32} {h : dh_H} {Q : Option Value → dh_H → Prop} (k : Q (some (.int (s0))) h) : dh_J G mX9_mostCalm 59 [none, none, none] [.int (s0)] h Q := by
  exact a_iret dX9_mostCalm_59 rfl k
set_option maxRecDepth 100000 in
theorem w_X9_trades_0 {G : dh_G} {x1 : Int32} {h : dh_H} {Q : Option Value → dh_H → Prop} (k : dh_J G mX9_trades 4 [some (.ref 0), some (.int (x1)), some (.int (nI 0)), some (.int (nI 0)), none] [] h Q) : dh_J G mX9_trades 0 [some (.ref 0), some (.int (x1)), none, none, none] [] h Q := by
  refine a_iconst dX9_trades_0 (v := nI 0) (by decide) ?_
  refine a_istore_n dX9_trades_1 (by decide) rfl ?_
  refine a_iconst dX9_trades_2 (v := nI 0) (by decide) ?_
  refine a_istore_n dX9_trades_3 (by decide) rfl ?_
  exact k
theorem e_X9_trades {G : dh_G} {x1 : Int32} {h : dh_H} {Q : Option Value → dh_H → Prop} (k : dh_J G mX9_trades 4 [some (.ref 0), some (.int (x1)), some (.int (nI 0)), some (.int (nI 0)), none] [] h Q) : dh_C G mX9_trades [.ref 0, .int (x1)] h Q := dh_C_of [some (.ref 0), some (.int (x1)), none, none, none] (by decide) (Nat.le_of_ble_eq_true rfl) rfl (w_X9_trades_0 k)
set_option maxRecDepth 100000 in
theorem w_X9_trades_4 {G : dh_G} {x1 x2 x3 : Int32} {h : dh_H} {Q : Option Value → dh_H → Prop} (k : (((h 3 3) ≤ x3) → ((¬ x1 = (-1 : Int32)) → Q (some (.int ((-1 : Int32)))) h) ∧ ((x1 = (-1 : Int32)) → Q (some (.int (x2))) h)) ∧ ((¬ (h 3 3) ≤ x3) → dh_J G mX9_trades 20 [some (.ref 0), some (.int (x1)), some (.int (x2)), some (.int (x3)), some (.int (x3 + (nI 1)))] [] h Q)) : dh_J G mX9_trades 4 [some (.ref 0), some (.int (x1)), some (.int (x2)), some (.int (x3)), none] [] h Q := by
  refine a_iload_n dX9_trades_4 rfl ?_
  refine a_aload_n dX9_trades_5 rfl ?_
  refine a_getR dX9_trades_6 fF_RX9_19 rfl rfl ?_
  refine a_getI dX9_trades_9 fF_RX9_117 rfl rfl ?_
  refine a_icmp_ge 76 dX9_trades_12 (by decide) (fun c1 => ?_) (fun c1 => ?_)
  · replace k := k.1 c1
    refine a_iload_n dX9_trades_76 rfl ?_
    refine a_iconst dX9_trades_77 (v := (-1 : Int32)) (by decide) ?_
    refine a_icmp_ne 85 dX9_trades_78 (by decide) (fun c2 => ?_) (fun c2 => ?_)
    · replace k := k.1 c2
      refine a_iconst dX9_trades_85 (v := (-1 : Int32)) (by decide) ?_
      exact a_iret dX9_trades_86 rfl k
    · replace k := k.2 c2
      refine a_iload_n dX9_trades_81 rfl ?_
      refine a_goto 86 dX9_trades_82 (by decide) ?_
      exact a_iret dX9_trades_86 rfl k
  · replace k := k.2 c1
    refine a_iload_n dX9_trades_15 rfl ?_
    refine a_iconst dX9_trades_16 (v := nI 1) (by decide) ?_
    refine a_iadd dX9_trades_17 ?_
    refine a_istore dX9_trades_18 (by decide) rfl ?_
    exact k
set_option maxRecDepth 100000 in
theorem w_X9_trades_20 {G : dh_G} {x1 x2 x3 x4 : Int32} {h : dh_H} {Q : Option Value → dh_H → Prop} (k : (((h 3 3) ≤ x4) → dh_J G mX9_trades 4 [some (.ref 0), some (.int (x1)), some (.int (x2)), some (.int (x3 + (nI 1))), none] [] h Q) ∧ ((¬ (h 3 3) ≤ x4) → dh_C G mX8_tradeCalms [.ref 19, .int (x3), .int (x4)] h (fun v h1 => dh_J G mX9_trades 42 [some (.ref 0), some (.int (x1)), some (.int (x2)), some (.int (x3)), some (.int (x4))] (v.toList ++ []) h1 Q))) : dh_J G mX9_trades 20 [some (.ref 0), some (.int (x1)), some (.int (x2)), some (.int (x3)), some (.int (x4))] [] h Q := by
  refine a_iload dX9_trades_20 rfl ?_
  refine a_aload_n dX9_trades_22 rfl ?_
  refine a_getR dX9_trades_23 fF_RX9_19 rfl rfl ?_
  refine a_getI dX9_trades_26 fF_RX9_117 rfl rfl ?_
  refine a_icmp_ge 70 dX9_trades_29 (by decide) (fun c1 => ?_) (fun c1 => ?_)
  · replace k := k.1 c1
    refine a_iinc dX9_trades_70 (v := x3 + (nI 1)) rfl (by rfl) (by decide) rfl ?_
    refine a_goto 4 dX9_trades_73 (by decide) ?_
    refine dh_drop 4 ?_
    exact k
  · replace k := k.2 c1
    refine a_aload_n dX9_trades_32 rfl ?_
    refine a_getR dX9_trades_33 fF_RX9_31 rfl rfl ?_
    refine a_iload_n dX9_trades_36 rfl ?_
    refine a_iload dX9_trades_37 rfl ?_
    exact a_callV2 dX9_trades_39 (dh_Y_up cY_RX9_245 (by decide)) rfl rfl (Nat.le_of_ble_eq_true rfl) k
set_option maxRecDepth 100000 in
theorem w_X9_trades_42 {G : dh_G} {x1 x2 x3 x4 s0 : Int32} {h : dh_H} {Q : Option Value → dh_H → Prop} (k : ((¬ s0 = 0) → ((¬ x2 = x1) → dh_J G mX9_trades 20 [some (.ref 0), some (.int (x1)), some (.int (x2 + (nI 1))), some (.int (x3)), some (.int (x4 + (nI 1)))] [] h Q) ∧ ((x2 = x1) → Q (some (.int (((nI 10) * x3) + x4))) h)) ∧ ((s0 = 0) → dh_J G mX9_trades 20 [some (.ref 0), some (.int (x1)), some (.int (x2)), some (.int (x3)), some (.int (x4 + (nI 1)))] [] h Q)) : dh_J G mX9_trades 42 [some (.ref 0), some (.int (x1)), some (.int (x2)), some (.int (x3)), some (.int (x4))] [.int (s0)] h Q := by
  refine a_if_ne 48 dX9_trades_42 (by decide) (fun c1 => ?_) (fun c1 => ?_)
  · replace k := k.1 c1
    refine a_iload_n dX9_trades_48 rfl ?_
    refine a_iload_n dX9_trades_49 rfl ?_
    refine a_icmp_ne 61 dX9_trades_50 (by decide) (fun c2 => ?_) (fun c2 => ?_)
    · replace k := k.1 c2
      refine a_iinc dX9_trades_61 (v := x2 + (nI 1)) rfl (by rfl) (by decide) rfl ?_
      refine a_iinc dX9_trades_64 (v := x4 + (nI 1)) rfl (by rfl) (by decide) rfl ?_
      refine a_goto 20 dX9_trades_67 (by decide) ?_
      exact k
    · replace k := k.2 c2
      refine a_bipush dX9_trades_53 (v := nI 10) (by decide) ?_
      refine a_iload_n dX9_trades_55 rfl ?_
      refine a_imul dX9_trades_56 ?_
      refine a_iload dX9_trades_57 rfl ?_
      refine a_iadd dX9_trades_59 ?_
      exact a_iret dX9_trades_60 rfl k
  · replace k := k.2 c1
    refine a_goto 64 dX9_trades_45 (by decide) ?_
    refine a_iinc dX9_trades_64 (v := x4 + (nI 1)) rfl (by rfl) (by decide) rfl ?_
    refine a_goto 20 dX9_trades_67 (by decide) ?_
    exact k
set_option maxRecDepth 100000 in
theorem w_X9_wants_0 {G : dh_G} {x1 : Int32} {h : dh_H} {Q : Option Value → dh_H → Prop} (k : dh_C G mX5_hasChild [.ref 3, .int (x1)] h (fun v h1 => dh_J G mX9_wants 8 [some (.ref 0), some (.int (x1)), none, none] (v.toList ++ []) h1 Q)) : dh_J G mX9_wants 0 [some (.ref 0), some (.int (x1)), none, none] [] h Q := by
  refine a_aload_n dX9_wants_0 rfl ?_
  refine a_getR dX9_wants_1 fF_RX9_19 rfl rfl ?_
  refine a_iload_n dX9_wants_4 rfl ?_
  exact a_callV1 dX9_wants_5 (dh_Y_up cY_RX9_151 (by decide)) rfl rfl (Nat.le_of_ble_eq_true rfl) k
theorem e_X9_wants {G : dh_G} {x1 : Int32} {h : dh_H} {Q : Option Value → dh_H → Prop} (k : dh_C G mX5_hasChild [.ref 3, .int (x1)] h (fun v h1 => dh_J G mX9_wants 8 [some (.ref 0), some (.int (x1)), none, none] (v.toList ++ []) h1 Q)) : dh_C G mX9_wants [.ref 0, .int (x1)] h Q := dh_C_of [some (.ref 0), some (.int (x1)), none, none] (by decide) (Nat.le_of_ble_eq_true rfl) rfl (w_X9_wants_0 k)
set_option maxRecDepth 100000 in
theorem w_X9_wants_8 {G : dh_G} {x1 s0 : Int32} {h : dh_H} {Q : Option Value → dh_H → Prop} (k : ((¬ s0 = 0) → dh_J G mX9_wants 18 [some (.ref 0), some (.int (x1)), some (.int (nI 0)), some (.int (nI 0))] [] h Q) ∧ ((s0 = 0) → Q (some (.int ((-1000000001 : Int32)))) h)) : dh_J G mX9_wants 8 [some (.ref 0), some (.int (x1)), none, none] [.int (s0)] h Q := by
  refine a_if_ne 14 dX9_wants_8 (by decide) (fun c1 => ?_) (fun c1 => ?_)
  · replace k := k.1 c1
    refine a_iconst dX9_wants_14 (v := nI 0) (by decide) ?_
    refine a_istore_n dX9_wants_15 (by decide) rfl ?_
    refine a_iconst dX9_wants_16 (v := nI 0) (by decide) ?_
    refine a_istore_n dX9_wants_17 (by decide) rfl ?_
    exact k
  · replace k := k.2 c1
    refine a_ldc dX9_wants_11 (v := (-1000000001 : Int32)) kK_RX9_154 ?_
    exact a_iret dX9_wants_13 rfl k
set_option maxRecDepth 100000 in
theorem w_X9_wants_18 {G : dh_G} {x1 x2 x3 : Int32} {h : dh_H} {Q : Option Value → dh_H → Prop} (k : (((h 3 4) ≤ x3) → Q (some (.int (x2))) h) ∧ ((¬ (h 3 4) ≤ x3) → dh_C G mX5_takes [.ref 3, .int (x1), .int (x3)] h (fun v h1 => dh_J G mX9_wants 38 [some (.ref 0), some (.int (x1)), some (.int (x2)), some (.int (x3))] (v.toList ++ []) h1 Q))) : dh_J G mX9_wants 18 [some (.ref 0), some (.int (x1)), some (.int (x2)), some (.int (x3))] [] h Q := by
  refine a_iload_n dX9_wants_18 rfl ?_
  refine a_aload_n dX9_wants_19 rfl ?_
  refine a_getR dX9_wants_20 fF_RX9_19 rfl rfl ?_
  refine a_getI dX9_wants_23 fF_RX9_129 rfl rfl ?_
  refine a_icmp_ge 50 dX9_wants_26 (by decide) (fun c1 => ?_) (fun c1 => ?_)
  · replace k := k.1 c1
    refine a_iload_n dX9_wants_50 rfl ?_
    exact a_iret dX9_wants_51 rfl k
  · replace k := k.2 c1
    refine a_aload_n dX9_wants_29 rfl ?_
    refine a_getR dX9_wants_30 fF_RX9_19 rfl rfl ?_
    refine a_iload_n dX9_wants_33 rfl ?_
    refine a_iload_n dX9_wants_34 rfl ?_
    exact a_callV2 dX9_wants_35 (dh_Y_up cY_RX9_219 (by decide)) rfl rfl (Nat.le_of_ble_eq_true rfl) k
set_option maxRecDepth 100000 in
theorem w_X9_wants_38 {G : dh_G} {x1 x2 x3 s0 : Int32} {h : dh_H} {Q : Option Value → dh_H → Prop} (k : ((s0 = 0) → dh_J G mX9_wants 18 [some (.ref 0), some (.int (x1)), some (.int (x2)), some (.int (x3 + (nI 1)))] [] h Q) ∧ ((¬ s0 = 0) → dh_J G mX9_wants 18 [some (.ref 0), some (.int (x1)), some (.int (x2 + (nI 1))), some (.int (x3 + (nI 1)))] [] h Q)) : dh_J G mX9_wants 38 [some (.ref 0), some (.int (x1)), some (.int (x2)), some (.int (x3))] [.int (s0)] h Q := by
  refine a_if_eq 44 dX9_wants_38 (by decide) (fun c1 => ?_) (fun c1 => ?_)
  · replace k := k.1 c1
    refine a_iinc dX9_wants_44 (v := x3 + (nI 1)) rfl (by rfl) (by decide) rfl ?_
    refine a_goto 18 dX9_wants_47 (by decide) ?_
    exact k
  · replace k := k.2 c1
    refine a_iinc dX9_wants_41 (v := x2 + (nI 1)) rfl (by rfl) (by decide) rfl ?_
    refine a_iinc dX9_wants_44 (v := x3 + (nI 1)) rfl (by rfl) (by decide) rfl ?_
    refine a_goto 18 dX9_wants_47 (by decide) ?_
    exact k
set_option maxRecDepth 100000 in
theorem w_X9_wanted_0 {G : dh_G} {x1 : Int32} {h : dh_H} {Q : Option Value → dh_H → Prop} (k : dh_C G mX5_hasDummy [.ref 3, .int (x1)] h (fun v h1 => dh_J G mX9_wanted 8 [some (.ref 0), some (.int (x1)), none, none] (v.toList ++ []) h1 Q)) : dh_J G mX9_wanted 0 [some (.ref 0), some (.int (x1)), none, none] [] h Q := by
  refine a_aload_n dX9_wanted_0 rfl ?_
  refine a_getR dX9_wanted_1 fF_RX9_19 rfl rfl ?_
  refine a_iload_n dX9_wanted_4 rfl ?_
  exact a_callV1 dX9_wanted_5 (dh_Y_up cY_RX9_173 (by decide)) rfl rfl (Nat.le_of_ble_eq_true rfl) k
theorem e_X9_wanted {G : dh_G} {x1 : Int32} {h : dh_H} {Q : Option Value → dh_H → Prop} (k : dh_C G mX5_hasDummy [.ref 3, .int (x1)] h (fun v h1 => dh_J G mX9_wanted 8 [some (.ref 0), some (.int (x1)), none, none] (v.toList ++ []) h1 Q)) : dh_C G mX9_wanted [.ref 0, .int (x1)] h Q := dh_C_of [some (.ref 0), some (.int (x1)), none, none] (by decide) (Nat.le_of_ble_eq_true rfl) rfl (w_X9_wanted_0 k)
set_option maxRecDepth 100000 in
theorem w_X9_wanted_8 {G : dh_G} {x1 s0 : Int32} {h : dh_H} {Q : Option Value → dh_H → Prop} (k : ((¬ s0 = 0) → dh_J G mX9_wanted 18 [some (.ref 0), some (.int (x1)), some (.int (nI 0)), some (.int (nI 0))] [] h Q) ∧ ((s0 = 0) → Q (some (.int ((-1000000001 : Int32)))) h)) : dh_J G mX9_wanted 8 [some (.ref 0), some (.int (x1)), none, none] [.int (s0)] h Q := by
  refine a_if_ne 14 dX9_wanted_8 (by decide) (fun c1 => ?_) (fun c1 => ?_)
  · replace k := k.1 c1
    refine a_iconst dX9_wanted_14 (v := nI 0) (by decide) ?_
    refine a_istore_n dX9_wanted_15 (by decide) rfl ?_
    refine a_iconst dX9_wanted_16 (v := nI 0) (by decide) ?_
    refine a_istore_n dX9_wanted_17 (by decide) rfl ?_
    exact k
  · replace k := k.2 c1
    refine a_ldc dX9_wanted_11 (v := (-1000000001 : Int32)) kK_RX9_154 ?_
    exact a_iret dX9_wanted_13 rfl k
set_option maxRecDepth 100000 in
theorem w_X9_wanted_18 {G : dh_G} {x1 x2 x3 : Int32} {h : dh_H} {Q : Option Value → dh_H → Prop} (k : (((h 3 3) ≤ x3) → Q (some (.int (x2))) h) ∧ ((¬ (h 3 3) ≤ x3) → dh_C G mX5_takes [.ref 3, .int (x3), .int (x1)] h (fun v h1 => dh_J G mX9_wanted 38 [some (.ref 0), some (.int (x1)), some (.int (x2)), some (.int (x3))] (v.toList ++ []) h1 Q))) : dh_J G mX9_wanted 18 [some (.ref 0), some (.int (x1)), some (.int (x2)), some (.int (x3))] [] h Q := by
  refine a_iload_n dX9_wanted_18 rfl ?_
  refine a_aload_n dX9_wanted_19 rfl ?_
  refine a_getR dX9_wanted_20 fF_RX9_19 rfl rfl ?_
  refine a_getI dX9_wanted_23 fF_RX9_117 rfl rfl ?_
  refine a_icmp_ge 50 dX9_wanted_26 (by decide) (fun c1 => ?_) (fun c1 => ?_)
  · replace k := k.1 c1
    refine a_iload_n dX9_wanted_50 rfl ?_
    exact a_iret dX9_wanted_51 rfl k
  · replace k := k.2 c1
    refine a_aload_n dX9_wanted_29 rfl ?_
    refine a_getR dX9_wanted_30 fF_RX9_19 rfl rfl ?_
    refine a_iload_n dX9_wanted_33 rfl ?_
    refine a_iload_n dX9_wanted_34 rfl ?_
    exact a_callV2 dX9_wanted_35 (dh_Y_up cY_RX9_219 (by decide)) rfl rfl (Nat.le_of_ble_eq_true rfl) k
set_option maxRecDepth 100000 in
theorem w_X9_wanted_38 {G : dh_G} {x1 x2 x3 s0 : Int32} {h : dh_H} {Q : Option Value → dh_H → Prop} (k : ((s0 = 0) → dh_J G mX9_wanted 18 [some (.ref 0), some (.int (x1)), some (.int (x2)), some (.int (x3 + (nI 1)))] [] h Q) ∧ ((¬ s0 = 0) → dh_J G mX9_wanted 18 [some (.ref 0), some (.int (x1)), some (.int (x2 + (nI 1))), some (.int (x3 + (nI 1)))] [] h Q)) : dh_J G mX9_wanted 38 [some (.ref 0), some (.int (x1)), some (.int (x2)), some (.int (x3))] [.int (s0)] h Q := by
  refine a_if_eq 44 dX9_wanted_38 (by decide) (fun c1 => ?_) (fun c1 => ?_)
  · replace k := k.1 c1
    refine a_iinc dX9_wanted_44 (v := x3 + (nI 1)) rfl (by rfl) (by decide) rfl ?_
    refine a_goto 18 dX9_wanted_47 (by decide) ?_
    exact k
  · replace k := k.2 c1
    refine a_iinc dX9_wanted_41 (v := x2 + (nI 1)) rfl (by rfl) (by decide) rfl ?_
    refine a_iinc dX9_wanted_44 (v := x3 + (nI 1)) rfl (by rfl) (by decide) rfl ?_
    refine a_goto 18 dX9_wanted_47 (by decide) ?_
    exact k
set_option maxRecDepth 100000 in
theorem w_X9_lost_0 {G : dh_G} {x1 x2 x3 : Int32} {h : dh_H} {Q : Option Value → dh_H → Prop} (k : ((x1 < (nI 1)) → Q (some (.int ((-1000000002 : Int32)))) h) ∧ ((¬ x1 < (nI 1)) → (((nI 20) < x1) → Q (some (.int ((-1000000002 : Int32)))) h) ∧ ((¬ (nI 20) < x1) → ((x2 < 0) → Q (some (.int ((-1000000002 : Int32)))) h) ∧ ((¬ x2 < 0) → (((nI 100) < x2) → Q (some (.int ((-1000000002 : Int32)))) h) ∧ ((¬ (nI 100) < x2) → ((x3 < 0) → Q (some (.int ((-1000000002 : Int32)))) h) ∧ ((¬ x3 < 0) → ((x3 ≤ (nI 60)) → dh_C G mX8_setAt [.ref 19, .int ((-2 : Int32))] h (fun v h1 => dh_J G mX9_lost 43 [some (.ref 0), some (.int (x1)), some (.int (x2)), some (.int (x3)), none, none, none, none] (v.toList ++ []) h1 Q)) ∧ ((¬ x3 ≤ (nI 60)) → Q (some (.int ((-1000000002 : Int32)))) h))))))) : dh_J G mX9_lost 0 [some (.ref 0), some (.int (x1)), some (.int (x2)), some (.int (x3)), none, none, none, none] [] h Q := by
  refine a_iload_n dX9_lost_0 rfl ?_
  refine a_iconst dX9_lost_1 (v := nI 1) (by decide) ?_
  refine a_icmp_lt 31 dX9_lost_2 (by decide) (fun c1 => ?_) (fun c1 => ?_)
  · replace k := k.1 c1
    refine a_ldc dX9_lost_31 (v := (-1000000002 : Int32)) kK_RX9_81 ?_
    exact a_iret dX9_lost_33 rfl k
  · replace k := k.2 c1
    refine a_iload_n dX9_lost_5 rfl ?_
    refine a_bipush dX9_lost_6 (v := nI 20) (by decide) ?_
    refine a_icmp_gt 31 dX9_lost_8 (by decide) (fun c2 => ?_) (fun c2 => ?_)
    · replace k := k.1 c2
      refine a_ldc dX9_lost_31 (v := (-1000000002 : Int32)) kK_RX9_81 ?_
      exact a_iret dX9_lost_33 rfl k
    · replace k := k.2 c2
      refine a_iload_n dX9_lost_11 rfl ?_
      refine a_if_lt 31 dX9_lost_12 (by decide) (fun c3 => ?_) (fun c3 => ?_)
      · replace k := k.1 c3
        refine a_ldc dX9_lost_31 (v := (-1000000002 : Int32)) kK_RX9_81 ?_
        exact a_iret dX9_lost_33 rfl k
      · replace k := k.2 c3
        refine a_iload_n dX9_lost_15 rfl ?_
        refine a_bipush dX9_lost_16 (v := nI 100) (by decide) ?_
        refine a_icmp_gt 31 dX9_lost_18 (by decide) (fun c4 => ?_) (fun c4 => ?_)
        · replace k := k.1 c4
          refine a_ldc dX9_lost_31 (v := (-1000000002 : Int32)) kK_RX9_81 ?_
          exact a_iret dX9_lost_33 rfl k
        · replace k := k.2 c4
          refine a_iload_n dX9_lost_21 rfl ?_
          refine a_if_lt 31 dX9_lost_22 (by decide) (fun c5 => ?_) (fun c5 => ?_)
          · replace k := k.1 c5
            refine a_ldc dX9_lost_31 (v := (-1000000002 : Int32)) kK_RX9_81 ?_
            exact a_iret dX9_lost_33 rfl k
          · replace k := k.2 c5
            refine a_iload_n dX9_lost_25 rfl ?_
            refine a_bipush dX9_lost_26 (v := nI 60) (by decide) ?_
            refine a_icmp_le 34 dX9_lost_28 (by decide) (fun c6 => ?_) (fun c6 => ?_)
            · replace k := k.1 c6
              refine a_aload_n dX9_lost_34 rfl ?_
              refine a_getR dX9_lost_35 fF_RX9_31 rfl rfl ?_
              refine a_bipush dX9_lost_38 (v := (-2 : Int32)) (by decide) ?_
              exact a_callV1 dX9_lost_40 (dh_Y_up cY_RX9_142 (by decide)) rfl rfl (Nat.le_of_ble_eq_true rfl) k
            · replace k := k.2 c6
              refine a_ldc dX9_lost_31 (v := (-1000000002 : Int32)) kK_RX9_81 ?_
              exact a_iret dX9_lost_33 rfl k
theorem e_X9_lost {G : dh_G} {x1 x2 x3 : Int32} {h : dh_H} {Q : Option Value → dh_H → Prop} (k : ((x1 < (nI 1)) → Q (some (.int ((-1000000002 : Int32)))) h) ∧ ((¬ x1 < (nI 1)) → (((nI 20) < x1) → Q (some (.int ((-1000000002 : Int32)))) h) ∧ ((¬ (nI 20) < x1) → ((x2 < 0) → Q (some (.int ((-1000000002 : Int32)))) h) ∧ ((¬ x2 < 0) → (((nI 100) < x2) → Q (some (.int ((-1000000002 : Int32)))) h) ∧ ((¬ (nI 100) < x2) → ((x3 < 0) → Q (some (.int ((-1000000002 : Int32)))) h) ∧ ((¬ x3 < 0) → ((x3 ≤ (nI 60)) → dh_C G mX8_setAt [.ref 19, .int ((-2 : Int32))] h (fun v h1 => dh_J G mX9_lost 43 [some (.ref 0), some (.int (x1)), some (.int (x2)), some (.int (x3)), none, none, none, none] (v.toList ++ []) h1 Q)) ∧ ((¬ x3 ≤ (nI 60)) → Q (some (.int ((-1000000002 : Int32)))) h))))))) : dh_C G mX9_lost [.ref 0, .int (x1), .int (x2), .int (x3)] h Q := dh_C_of [some (.ref 0), some (.int (x1)), some (.int (x2)), some (.int (x3)), none, none, none, none] (by decide) (Nat.le_of_ble_eq_true rfl) rfl (w_X9_lost_0 k)
set_option maxRecDepth 100000 in
theorem w_X9_lost_43 {G : dh_G} {x1 x2 x3 s0 : Int32} {h : dh_H} {Q : Option Value → dh_H → Prop} (k : ((¬ s0 = 0) → dh_J G mX9_lost 52 [some (.ref 0), some (.int (x1)), some (.int (x2)), some (.int (x3)), some (.int (nI 0)), none, none, none] [] h Q) ∧ ((s0 = 0) → Q (some (.int ((-1000000003 : Int32)))) h)) : dh_J G mX9_lost 43 [some (.ref 0), some (.int (x1)), some (.int (x2)), some (.int (x3)), none, none, none, none] [.int (s0)] h Q := by
  refine a_if_ne 49 dX9_lost_43 (by decide) (fun c1 => ?_) (fun c1 => ?_)
  · replace k := k.1 c1
    refine a_iconst dX9_lost_49 (v := nI 0) (by decide) ?_
    refine a_istore dX9_lost_50 (by decide) rfl ?_
    exact k
  · replace k := k.2 c1
    refine a_ldc dX9_lost_46 (v := (-1000000003 : Int32)) kK_RX9_214 ?_
    exact a_iret dX9_lost_48 rfl k
set_option maxRecDepth 100000 in
theorem w_X9_lost_52 {G : dh_G} {x1 x2 x3 x4 : Int32} {h : dh_H} {Q : Option Value → dh_H → Prop} (k : ((x1 ≤ x4) → dh_J G mX9_lost 81 [some (.ref 0), some (.int (x1)), some (.int (x2)), some (.int (x3)), some (.int (nI 0)), some (.int (nI 0)), none, none] [] h Q) ∧ ((¬ x1 ≤ x4) → (¬ x1 = 0) ∧ (vp_in x4 20) ∧ dh_J G mX9_lost 52 [some (.ref 0), some (.int (x1)), some (.int (x2)), some (.int (x3)), some (.int (x4 + (nI 1))), none, none, none] [] (dh_s h 60 x4.toNatClampNeg ((nI 1000000000) / x1)) Q)) : dh_J G mX9_lost 52 [some (.ref 0), some (.int (x1)), some (.int (x2)), some (.int (x3)), some (.int (x4)), none, none, none] [] h Q := by
  refine a_iload dX9_lost_52 rfl ?_
  refine a_iload_n dX9_lost_54 rfl ?_
  refine a_icmp_ge 75 dX9_lost_55 (by decide) (fun c1 => ?_) (fun c1 => ?_)
  · replace k := k.1 c1
    refine a_iconst dX9_lost_75 (v := nI 0) (by decide) ?_
    refine a_istore dX9_lost_76 (by decide) rfl ?_
    refine a_iconst dX9_lost_78 (v := nI 0) (by decide) ?_
    refine a_istore dX9_lost_79 (by decide) rfl ?_
    exact k
  · replace k := k.2 c1
    refine a_aload_n dX9_lost_58 rfl ?_
    refine a_getR dX9_lost_59 fF_RX9_77 rfl rfl ?_
    refine a_iload dX9_lost_62 rfl ?_
    refine a_ldc dX9_lost_64 (v := nI 1000000000) kK_RX9_248 ?_
    refine a_iload_n dX9_lost_66 rfl ?_
    obtain ⟨e2, k⟩ := k
    refine a_idiv dX9_lost_67 e2 ?_
    obtain ⟨e3, k⟩ := k
    refine a_iast dX9_lost_68 rfl e3 ?_
    refine a_iinc dX9_lost_69 (v := x4 + (nI 1)) rfl (by rfl) (by decide) rfl ?_
    refine a_goto 52 dX9_lost_72 (by decide) ?_
    exact k
set_option maxRecDepth 100000 in
theorem w_X9_lost_81 {G : dh_G} {x1 x2 x3 x4 x5 : Int32} {h : dh_H} {Q : Option Value → dh_H → Prop} (k : ((x3 ≤ x5) → Q (some (.int (x4))) h) ∧ ((¬ x3 ≤ x5) → (¬ x1 = 0) ∧ (vp_in (x5 - x5 / x1 * x1) 20) ∧ dh_C G mX9_percentOf [.int (h 60 (x5 - x5 / x1 * x1).toNatClampNeg), .int (x2)] h (fun v h1 => dh_J G mX9_lost 104 [some (.ref 0), some (.int (x1)), some (.int (x2)), some (.int (x3)), some (.int (x4)), some (.int (x5)), some (.int (x5 - x5 / x1 * x1)), none] (v.toList ++ []) h1 Q))) : dh_J G mX9_lost 81 [some (.ref 0), some (.int (x1)), some (.int (x2)), some (.int (x3)), some (.int (x4)), some (.int (x5)), none, none] [] h Q := by
  refine a_iload dX9_lost_81 rfl ?_
  refine a_iload_n dX9_lost_83 rfl ?_
  refine a_icmp_ge 131 dX9_lost_84 (by decide) (fun c1 => ?_) (fun c1 => ?_)
  · replace k := k.1 c1
    refine a_iload dX9_lost_131 rfl ?_
    exact a_iret dX9_lost_133 rfl k
  · replace k := k.2 c1
    refine a_iload dX9_lost_87 rfl ?_
    refine a_iload_n dX9_lost_89 rfl ?_
    obtain ⟨e2, k⟩ := k
    refine a_irem dX9_lost_90 e2 ?_
    refine a_istore dX9_lost_91 (by decide) rfl ?_
    refine a_aload_n dX9_lost_93 rfl ?_
    refine a_getR dX9_lost_94 fF_RX9_77 rfl rfl ?_
    refine a_iload dX9_lost_97 rfl ?_
    obtain ⟨e3, k⟩ := k
    refine a_iald dX9_lost_99 rfl e3 ?_
    refine a_iload_n dX9_lost_100 rfl ?_
    exact a_callS2 dX9_lost_101 (dh_Y_up cY_RX9_249 (by decide)) (Nat.le_of_ble_eq_true rfl) k
set_option maxRecDepth 100000 in
theorem w_X9_lost_104 {G : dh_G} {x1 x2 x3 x4 x5 x6 s0 : Int32} {h : dh_H} {Q : Option Value → dh_H → Prop} (k : (vp_in x6 20) ∧ (vp_in x6 20) ∧ dh_J G mX9_lost 81 [some (.ref 0), some (.int (x1)), some (.int (x2)), some (.int (x3)), some (.int (x4 + s0)), some (.int (x5 + (nI 1))), none, none] [] (dh_s h 60 x6.toNatClampNeg ((h 60 x6.toNatClampNeg) - s0)) Q) : dh_J G mX9_lost 104 [some (.ref 0), some (.int (x1)), some (.int (x2)), some (.int (x3)), some (.int (x4)), some (.int (x5)), some (.int (x6)), none] [.int (s0)] h Q := by
  refine a_istore dX9_lost_104 (by decide) rfl ?_
  refine a_aload_n dX9_lost_106 rfl ?_
  refine a_getR dX9_lost_107 fF_RX9_77 rfl rfl ?_
  refine a_iload dX9_lost_110 rfl ?_
  refine a_dup2 dX9_lost_112 rfl rfl ?_
  obtain ⟨e1, k⟩ := k
  refine a_iald dX9_lost_113 rfl e1 ?_
  refine a_iload dX9_lost_114 rfl ?_
  refine a_isub dX9_lost_116 ?_
  obtain ⟨e2, k⟩ := k
  refine a_iast dX9_lost_117 rfl e2 ?_
  refine a_iload dX9_lost_118 rfl ?_
  refine a_iload dX9_lost_120 rfl ?_
  refine a_iadd dX9_lost_122 ?_
  refine a_istore dX9_lost_123 (by decide) rfl ?_
  refine a_iinc dX9_lost_125 (v := x5 + (nI 1)) rfl (by rfl) (by decide) rfl ?_
  refine a_goto 81 dX9_lost_128 (by decide) ?_
  refine dh_drop 6 ?_
  refine dh_drop 7 ?_
  exact k
set_option maxRecDepth 100000 in
theorem w_X9_spares_0 {G : dh_G} {x1 : Int32} {h : dh_H} {Q : Option Value → dh_H → Prop} (k : dh_C G mX5_hasDummy [.ref 3, .int (x1)] h (fun v h1 => dh_J G mX9_spares 8 [some (.ref 0), some (.int (x1))] (v.toList ++ []) h1 Q)) : dh_J G mX9_spares 0 [some (.ref 0), some (.int (x1))] [] h Q := by
  refine a_aload_n dX9_spares_0 rfl ?_
  refine a_getR dX9_spares_1 fF_RX9_19 rfl rfl ?_
  refine a_iload_n dX9_spares_4 rfl ?_
  exact a_callV1 dX9_spares_5 (dh_Y_up cY_RX9_173 (by decide)) rfl rfl (Nat.le_of_ble_eq_true rfl) k
theorem e_X9_spares {G : dh_G} {x1 : Int32} {h : dh_H} {Q : Option Value → dh_H → Prop} (k : dh_C G mX5_hasDummy [.ref 3, .int (x1)] h (fun v h1 => dh_J G mX9_spares 8 [some (.ref 0), some (.int (x1))] (v.toList ++ []) h1 Q)) : dh_C G mX9_spares [.ref 0, .int (x1)] h Q := dh_C_of [some (.ref 0), some (.int (x1))] (by decide) (Nat.le_of_ble_eq_true rfl) rfl (w_X9_spares_0 k)
set_option maxRecDepth 100000 in
theorem w_X9_spares_8 {G : dh_G} {x1 s0 : Int32} {h : dh_H} {Q : Option Value → dh_H → Prop} (k : ((¬ s0 = 0) → dh_C G mX3_prepare [.ref 27, .ref 3, .ref 19, .int (nI 0)] h (fun v h1 => dh_J G mX9_spares 30 [some (.ref 0), some (.int (x1))] (v.toList ++ []) h1 Q)) ∧ ((s0 = 0) → Q (some (.int ((-1000000001 : Int32)))) h)) : dh_J G mX9_spares 8 [some (.ref 0), some (.int (x1))] [.int (s0)] h Q := by
  refine a_if_ne 14 dX9_spares_8 (by decide) (fun c1 => ?_) (fun c1 => ?_)
  · replace k := k.1 c1
    refine a_aload_n dX9_spares_14 rfl ?_
    refine a_getR dX9_spares_15 fF_RX9_45 rfl rfl ?_
    refine a_aload_n dX9_spares_18 rfl ?_
    refine a_getR dX9_spares_19 fF_RX9_19 rfl rfl ?_
    refine a_aload_n dX9_spares_22 rfl ?_
    refine a_getR dX9_spares_23 fF_RX9_31 rfl rfl ?_
    refine a_iconst dX9_spares_26 (v := nI 0) (by decide) ?_
    exact a_callV3 dX9_spares_27 (dh_Y_up cY_RX9_235 (by decide)) rfl rfl (Nat.le_of_ble_eq_true rfl) k
  · replace k := k.2 c1
    refine a_ldc dX9_spares_11 (v := (-1000000001 : Int32)) kK_RX9_154 ?_
    exact a_iret dX9_spares_13 rfl k
set_option maxRecDepth 100000 in
theorem w_X9_spares_30 {G : dh_G} {x1 : Int32} {h : dh_H} {Q : Option Value → dh_H → Prop} (k : dh_C G mX3_most [.ref 27, .int (nI 0)] h (fun v h1 => dh_J G mX9_spares 38 [some (.ref 0), some (.int (x1))] (v.toList ++ []) h1 Q)) : dh_J G mX9_spares 30 [some (.ref 0), some (.int (x1))] [] h Q := by
  refine a_aload_n dX9_spares_30 rfl ?_
  refine a_getR dX9_spares_31 fF_RX9_45 rfl rfl ?_
  refine a_iconst dX9_spares_34 (v := nI 0) (by decide) ?_
  exact a_callV1 dX9_spares_35 (dh_Y_up cY_RX9_239 (by decide)) rfl rfl (Nat.le_of_ble_eq_true rfl) k
set_option maxRecDepth 100000 in
theorem w_X9_spares_38 {G : dh_G} {x1 s0 : Int32} {h : dh_H} {Q : Option Value → dh_H → Prop} (k : dh_C G mX3_most [.ref 27, .int ((nI 1) <<< (x1 &&& 31))] h (fun v h1 => dh_J G mX9_spares 48 [none, none] (v.toList ++ [.int (s0)]) h1 Q)) : dh_J G mX9_spares 38 [some (.ref 0), some (.int (x1))] [.int (s0)] h Q := by
  refine a_aload_n dX9_spares_38 rfl ?_
  refine a_getR dX9_spares_39 fF_RX9_45 rfl rfl ?_
  refine a_iconst dX9_spares_42 (v := nI 1) (by decide) ?_
  refine a_iload_n dX9_spares_43 rfl ?_
  refine a_ishl dX9_spares_44 ?_
  refine dh_drop 0 ?_
  refine dh_drop 1 ?_
  exact a_callV1 dX9_spares_45 (dh_Y_up cY_RX9_239 (by decide)) rfl rfl (Nat.le_of_ble_eq_true rfl) k
set_option maxRecDepth 100000 in
theorem w_X9_spares_48 {G : dh_G} {s0 s1 : Int32} {h : dh_H} {Q : Option Value → dh_H → Prop} (k : Q (some (.int (s0 - s1))) h) : dh_J G mX9_spares 48 [none, none] [.int (s1), .int (s0)] h Q := by
  refine a_isub dX9_spares_48 ?_
  exact a_iret dX9_spares_49 rfl k
set_option maxRecDepth 100000 in
theorem w_X9_off_0 {G : dh_G} {x1 : Int32} {h : dh_H} {Q : Option Value → dh_H → Prop} (k : dh_C G mX5_hasChild [.ref 3, .int (x1)] h (fun v h1 => dh_J G mX9_off 8 [some (.ref 0), some (.int (x1)), none] (v.toList ++ []) h1 Q)) : dh_J G mX9_off 0 [some (.ref 0), some (.int (x1)), none] [] h Q := by
  refine a_aload_n dX9_off_0 rfl ?_
  refine a_getR dX9_off_1 fF_RX9_19 rfl rfl ?_
  refine a_iload_n dX9_off_4 rfl ?_
  exact a_callV1 dX9_off_5 (dh_Y_up cY_RX9_151 (by decide)) rfl rfl (Nat.le_of_ble_eq_true rfl) k
theorem e_X9_off {G : dh_G} {x1 : Int32} {h : dh_H} {Q : Option Value → dh_H → Prop} (k : dh_C G mX5_hasChild [.ref 3, .int (x1)] h (fun v h1 => dh_J G mX9_off 8 [some (.ref 0), some (.int (x1)), none] (v.toList ++ []) h1 Q)) : dh_C G mX9_off [.ref 0, .int (x1)] h Q := dh_C_of [some (.ref 0), some (.int (x1)), none] (by decide) (Nat.le_of_ble_eq_true rfl) rfl (w_X9_off_0 k)
set_option maxRecDepth 100000 in
theorem w_X9_off_8 {G : dh_G} {x1 s0 : Int32} {h : dh_H} {Q : Option Value → dh_H → Prop} (k : ((¬ s0 = 0) → (vp_in x1 6) ∧ (vp_in x1 6) ∧ ((¬ (h 4 x1.toNatClampNeg) = (nI 3)) → Q (some (.int ((nI 100) - (h 5 x1.toNatClampNeg)))) h) ∧ (((h 4 x1.toNatClampNeg) = (nI 3)) → Q (some (.int ((nI 2) * ((nI 100) - (h 5 x1.toNatClampNeg))))) h)) ∧ ((s0 = 0) → Q (some (.int ((-1000000001 : Int32)))) h)) : dh_J G mX9_off 8 [some (.ref 0), some (.int (x1)), none] [.int (s0)] h Q := by
  refine a_if_ne 14 dX9_off_8 (by decide) (fun c1 => ?_) (fun c1 => ?_)
  · replace k := k.1 c1
    refine a_bipush dX9_off_14 (v := nI 100) (by decide) ?_
    refine a_aload_n dX9_off_16 rfl ?_
    refine a_getR dX9_off_17 fF_RX9_19 rfl rfl ?_
    refine a_getR dX9_off_20 fF_RX9_158 rfl rfl ?_
    refine a_iload_n dX9_off_23 rfl ?_
    obtain ⟨e2, k⟩ := k
    refine a_iald dX9_off_24 rfl e2 ?_
    refine a_isub dX9_off_25 ?_
    refine a_istore_n dX9_off_26 (by decide) rfl ?_
    refine a_aload_n dX9_off_27 rfl ?_
    refine a_getR dX9_off_28 fF_RX9_19 rfl rfl ?_
    refine a_getR dX9_off_31 fF_RX9_155 rfl rfl ?_
    refine a_iload_n dX9_off_34 rfl ?_
    obtain ⟨e3, k⟩ := k
    refine a_iald dX9_off_35 rfl e3 ?_
    refine a_iconst dX9_off_36 (v := nI 3) (by decide) ?_
    refine a_icmp_ne 46 dX9_off_37 (by decide) (fun c4 => ?_) (fun c4 => ?_)
    · replace k := k.1 c4
      refine a_iload_n dX9_off_46 rfl ?_
      exact a_iret dX9_off_47 rfl k
    · replace k := k.2 c4
      refine a_iconst dX9_off_40 (v := nI 2) (by decide) ?_
      refine a_iload_n dX9_off_41 rfl ?_
      refine a_imul dX9_off_42 ?_
      refine a_goto 47 dX9_off_43 (by decide) ?_
      exact a_iret dX9_off_47 rfl k
  · replace k := k.2 c1
    refine a_ldc dX9_off_11 (v := (-1000000001 : Int32)) kK_RX9_154 ?_
    exact a_iret dX9_off_13 rfl k
set_option maxRecDepth 100000 in
theorem w_X9_quiet_0 {G : dh_G} {x1 : Int32} {h : dh_H} {Q : Option Value → dh_H → Prop} (k : ((x1 < 0) → Q (some (.int ((-1000000002 : Int32)))) h) ∧ ((¬ x1 < 0) → ((x1 ≤ (nI 60)) → dh_J G mX9_quiet 18 [some (.ref 0), some (.int (x1)), some (.int (nI 1000000000)), some (.int (nI 0))] [] h Q) ∧ ((¬ x1 ≤ (nI 60)) → Q (some (.int ((-1000000002 : Int32)))) h))) : dh_J G mX9_quiet 0 [some (.ref 0), some (.int (x1)), none, none] [] h Q := by
  refine a_iload_n dX9_quiet_0 rfl ?_
  refine a_if_lt 10 dX9_quiet_1 (by decide) (fun c1 => ?_) (fun c1 => ?_)
  · replace k := k.1 c1
    refine a_ldc dX9_quiet_10 (v := (-1000000002 : Int32)) kK_RX9_81 ?_
    exact a_iret dX9_quiet_12 rfl k
  · replace k := k.2 c1
    refine a_iload_n dX9_quiet_4 rfl ?_
    refine a_bipush dX9_quiet_5 (v := nI 60) (by decide) ?_
    refine a_icmp_le 13 dX9_quiet_7 (by decide) (fun c2 => ?_) (fun c2 => ?_)
    · replace k := k.1 c2
      refine a_ldc dX9_quiet_13 (v := nI 1000000000) kK_RX9_248 ?_
      refine a_istore_n dX9_quiet_15 (by decide) rfl ?_
      refine a_iconst dX9_quiet_16 (v := nI 0) (by decide) ?_
      refine a_istore_n dX9_quiet_17 (by decide) rfl ?_
      exact k
    · replace k := k.2 c2
      refine a_ldc dX9_quiet_10 (v := (-1000000002 : Int32)) kK_RX9_81 ?_
      exact a_iret dX9_quiet_12 rfl k
theorem e_X9_quiet {G : dh_G} {x1 : Int32} {h : dh_H} {Q : Option Value → dh_H → Prop} (k : ((x1 < 0) → Q (some (.int ((-1000000002 : Int32)))) h) ∧ ((¬ x1 < 0) → ((x1 ≤ (nI 60)) → dh_J G mX9_quiet 18 [some (.ref 0), some (.int (x1)), some (.int (nI 1000000000)), some (.int (nI 0))] [] h Q) ∧ ((¬ x1 ≤ (nI 60)) → Q (some (.int ((-1000000002 : Int32)))) h))) : dh_C G mX9_quiet [.ref 0, .int (x1)] h Q := dh_C_of [some (.ref 0), some (.int (x1)), none, none] (by decide) (Nat.le_of_ble_eq_true rfl) rfl (w_X9_quiet_0 k)
set_option maxRecDepth 100000 in
theorem w_X9_quiet_18 {G : dh_G} {x1 x2 x3 : Int32} {h : dh_H} {Q : Option Value → dh_H → Prop} (k : ((x1 ≤ x3) → Q (some (.int (x2))) h) ∧ ((¬ x1 ≤ x3) → dh_C G mX9_percentOf [.int (x2), .int ((nI 100) - (h 3 2))] h (fun v h1 => dh_J G mX9_quiet 37 [some (.ref 0), some (.int (x1)), none, some (.int (x3))] (v.toList ++ []) h1 Q))) : dh_J G mX9_quiet 18 [some (.ref 0), some (.int (x1)), some (.int (x2)), some (.int (x3))] [] h Q := by
  refine a_iload_n dX9_quiet_18 rfl ?_
  refine a_iload_n dX9_quiet_19 rfl ?_
  refine a_icmp_ge 44 dX9_quiet_20 (by decide) (fun c1 => ?_) (fun c1 => ?_)
  · replace k := k.1 c1
    refine a_iload_n dX9_quiet_44 rfl ?_
    exact a_iret dX9_quiet_45 rfl k
  · replace k := k.2 c1
    refine a_iload_n dX9_quiet_23 rfl ?_
    refine a_bipush dX9_quiet_24 (v := nI 100) (by decide) ?_
    refine a_aload_n dX9_quiet_26 rfl ?_
    refine a_getR dX9_quiet_27 fF_RX9_19 rfl rfl ?_
    refine a_getI dX9_quiet_30 fF_RX9_126 rfl rfl ?_
    refine a_isub dX9_quiet_33 ?_
    refine dh_drop 2 ?_
    exact a_callS2 dX9_quiet_34 (dh_Y_up cY_RX9_249 (by decide)) (Nat.le_of_ble_eq_true rfl) k
set_option maxRecDepth 100000 in
theorem w_X9_quiet_37 {G : dh_G} {x1 x3 s0 : Int32} {h : dh_H} {Q : Option Value → dh_H → Prop} (k : dh_J G mX9_quiet 18 [some (.ref 0), some (.int (x1)), some (.int (s0)), some (.int (x3 + (nI 1)))] [] h Q) : dh_J G mX9_quiet 37 [some (.ref 0), some (.int (x1)), none, some (.int (x3))] [.int (s0)] h Q := by
  refine a_istore_n dX9_quiet_37 (by decide) rfl ?_
  refine a_iinc dX9_quiet_38 (v := x3 + (nI 1)) rfl (by rfl) (by decide) rfl ?_
  refine a_goto 18 dX9_quiet_41 (by decide) ?_
  exact k
set_option maxRecDepth 100000 in
theorem w_X9_trial_0 {G : dh_G} {x1 x2 x3 : Int32} {h : dh_H} {Q : Option Value → dh_H → Prop} (k : dh_C G mX5_hasChild [.ref 3, .int (x1)] h (fun v h1 => dh_J G mX9_trial 8 [some (.ref 0), some (.int (x1)), some (.int (x2)), some (.int (x3))] (v.toList ++ []) h1 Q)) : dh_J G mX9_trial 0 [some (.ref 0), some (.int (x1)), some (.int (x2)), some (.int (x3))] [] h Q := by
  refine a_aload_n dX9_trial_0 rfl ?_
  refine a_getR dX9_trial_1 fF_RX9_19 rfl rfl ?_
  refine a_iload_n dX9_trial_4 rfl ?_
  exact a_callV1 dX9_trial_5 (dh_Y_up cY_RX9_151 (by decide)) rfl rfl (Nat.le_of_ble_eq_true rfl) k
theorem e_X9_trial {G : dh_G} {x1 x2 x3 : Int32} {h : dh_H} {Q : Option Value → dh_H → Prop} (k : dh_C G mX5_hasChild [.ref 3, .int (x1)] h (fun v h1 => dh_J G mX9_trial 8 [some (.ref 0), some (.int (x1)), some (.int (x2)), some (.int (x3))] (v.toList ++ []) h1 Q)) : dh_C G mX9_trial [.ref 0, .int (x1), .int (x2), .int (x3)] h Q := dh_C_of [some (.ref 0), some (.int (x1)), some (.int (x2)), some (.int (x3))] (by decide) (Nat.le_of_ble_eq_true rfl) rfl (w_X9_trial_0 k)
set_option maxRecDepth 100000 in
theorem w_X9_trial_8 {G : dh_G} {x1 x2 x3 s0 : Int32} {h : dh_H} {Q : Option Value → dh_H → Prop} (k : ((s0 = 0) → Q (some (.int ((-1000000001 : Int32)))) h) ∧ ((¬ s0 = 0) → dh_C G mX5_hasDummy [.ref 3, .int (x2)] h (fun v h1 => dh_J G mX9_trial 19 [some (.ref 0), some (.int (x1)), some (.int (x2)), some (.int (x3))] (v.toList ++ []) h1 Q))) : dh_J G mX9_trial 8 [some (.ref 0), some (.int (x1)), some (.int (x2)), some (.int (x3))] [.int (s0)] h Q := by
  refine a_if_eq 22 dX9_trial_8 (by decide) (fun c1 => ?_) (fun c1 => ?_)
  · replace k := k.1 c1
    refine a_ldc dX9_trial_22 (v := (-1000000001 : Int32)) kK_RX9_154 ?_
    exact a_iret dX9_trial_24 rfl k
  · replace k := k.2 c1
    refine a_aload_n dX9_trial_11 rfl ?_
    refine a_getR dX9_trial_12 fF_RX9_19 rfl rfl ?_
    refine a_iload_n dX9_trial_15 rfl ?_
    exact a_callV1 dX9_trial_16 (dh_Y_up cY_RX9_173 (by decide)) rfl rfl (Nat.le_of_ble_eq_true rfl) k
set_option maxRecDepth 100000 in
theorem w_X9_trial_19 {G : dh_G} {x1 x2 x3 s0 : Int32} {h : dh_H} {Q : Option Value → dh_H → Prop} (k : ((¬ s0 = 0) → dh_C G mX7_append [.ref 37, .int (x1), .int (x2), .int (x3)] h (fun v h1 => dh_J G mX9_trial 35 [some (.ref 0), none, none, none] (v.toList ++ []) h1 Q)) ∧ ((s0 = 0) → Q (some (.int ((-1000000001 : Int32)))) h)) : dh_J G mX9_trial 19 [some (.ref 0), some (.int (x1)), some (.int (x2)), some (.int (x3))] [.int (s0)] h Q := by
  refine a_if_ne 25 dX9_trial_19 (by decide) (fun c1 => ?_) (fun c1 => ?_)
  · replace k := k.1 c1
    refine a_aload_n dX9_trial_25 rfl ?_
    refine a_getR dX9_trial_26 fF_RX9_52 rfl rfl ?_
    refine a_iload_n dX9_trial_29 rfl ?_
    refine a_iload_n dX9_trial_30 rfl ?_
    refine a_iload_n dX9_trial_31 rfl ?_
    refine dh_drop 1 ?_
    refine dh_drop 2 ?_
    refine dh_drop 3 ?_
    exact a_callV3 dX9_trial_32 (dh_Y_up cY_RX9_253 (by decide)) rfl rfl (Nat.le_of_ble_eq_true rfl) k
  · replace k := k.2 c1
    refine a_ldc dX9_trial_22 (v := (-1000000001 : Int32)) kK_RX9_154 ?_
    exact a_iret dX9_trial_24 rfl k
set_option maxRecDepth 100000 in
theorem w_X9_trial_35 {G : dh_G} {s0 : Int32} {h : dh_H} {Q : Option Value → dh_H → Prop} (k : ((s0 = 0) → Q (some (.int ((-1000000004 : Int32)))) h) ∧ ((¬ s0 = 0) → Q (some (.int (h 37 1))) h)) : dh_J G mX9_trial 35 [some (.ref 0), none, none, none] [.int (s0)] h Q := by
  refine a_if_eq 48 dX9_trial_35 (by decide) (fun c1 => ?_) (fun c1 => ?_)
  · replace k := k.1 c1
    refine a_ldc dX9_trial_48 (v := (-1000000004 : Int32)) kK_RX9_90 ?_
    exact a_iret dX9_trial_50 rfl k
  · replace k := k.2 c1
    refine a_aload_n dX9_trial_38 rfl ?_
    refine a_getR dX9_trial_39 fF_RX9_52 rfl rfl ?_
    refine a_getI dX9_trial_42 fF_RX9_149 rfl rfl ?_
    refine a_goto 50 dX9_trial_45 (by decide) ?_
    exact a_iret dX9_trial_50 rfl k
set_option maxRecDepth 100000 in
theorem w_X9_whose_0 {G : dh_G} {x1 : Int32} {h : dh_H} {Q : Option Value → dh_H → Prop} (k : ((x1 = (-1 : Int32)) → (((h 3 3) ≤ (h 3 4)) → dh_C G mX7_solve [.ref 37] h (fun v h1 => dh_J G mX9_whose 46 [some (.ref 0), some (.int (x1))] (v.toList ++ []) h1 Q)) ∧ ((¬ (h 3 3) ≤ (h 3 4)) → Q (some (.int ((-1000000003 : Int32)))) h)) ∧ ((¬ x1 = (-1 : Int32)) → dh_C G mX5_hasChild [.ref 3, .int (x1)] h (fun v h1 => dh_J G mX9_whose 13 [some (.ref 0), some (.int (x1))] (v.toList ++ []) h1 Q))) : dh_J G mX9_whose 0 [some (.ref 0), some (.int (x1))] [] h Q := by
  refine a_iload_n dX9_whose_0 rfl ?_
  refine a_iconst dX9_whose_1 (v := (-1 : Int32)) (by decide) ?_
  refine a_icmp_eq 19 dX9_whose_2 (by decide) (fun c1 => ?_) (fun c1 => ?_)
  · replace k := k.1 c1
    refine a_aload_n dX9_whose_19 rfl ?_
    refine a_getR dX9_whose_20 fF_RX9_19 rfl rfl ?_
    refine a_getI dX9_whose_23 fF_RX9_129 rfl rfl ?_
    refine a_aload_n dX9_whose_26 rfl ?_
    refine a_getR dX9_whose_27 fF_RX9_19 rfl rfl ?_
    refine a_getI dX9_whose_30 fF_RX9_117 rfl rfl ?_
    refine a_icmp_ge 39 dX9_whose_33 (by decide) (fun c2 => ?_) (fun c2 => ?_)
    · replace k := k.1 c2
      refine a_aload_n dX9_whose_39 rfl ?_
      refine a_getR dX9_whose_40 fF_RX9_52 rfl rfl ?_
      exact a_callV0 dX9_whose_43 (dh_Y_up cY_RX9_256 (by decide)) rfl rfl (Nat.le_of_ble_eq_true rfl) k
    · replace k := k.2 c2
      refine a_ldc dX9_whose_36 (v := (-1000000003 : Int32)) kK_RX9_214 ?_
      exact a_iret dX9_whose_38 rfl k
  · replace k := k.2 c1
    refine a_aload_n dX9_whose_5 rfl ?_
    refine a_getR dX9_whose_6 fF_RX9_19 rfl rfl ?_
    refine a_iload_n dX9_whose_9 rfl ?_
    exact a_callV1 dX9_whose_10 (dh_Y_up cY_RX9_151 (by decide)) rfl rfl (Nat.le_of_ble_eq_true rfl) k
theorem e_X9_whose {G : dh_G} {x1 : Int32} {h : dh_H} {Q : Option Value → dh_H → Prop} (k : ((x1 = (-1 : Int32)) → (((h 3 3) ≤ (h 3 4)) → dh_C G mX7_solve [.ref 37] h (fun v h1 => dh_J G mX9_whose 46 [some (.ref 0), some (.int (x1))] (v.toList ++ []) h1 Q)) ∧ ((¬ (h 3 3) ≤ (h 3 4)) → Q (some (.int ((-1000000003 : Int32)))) h)) ∧ ((¬ x1 = (-1 : Int32)) → dh_C G mX5_hasChild [.ref 3, .int (x1)] h (fun v h1 => dh_J G mX9_whose 13 [some (.ref 0), some (.int (x1))] (v.toList ++ []) h1 Q))) : dh_C G mX9_whose [.ref 0, .int (x1)] h Q := dh_C_of [some (.ref 0), some (.int (x1))] (by decide) (Nat.le_of_ble_eq_true rfl) rfl (w_X9_whose_0 k)
set_option maxRecDepth 100000 in
theorem w_X9_whose_13 {G : dh_G} {x1 s0 : Int32} {h : dh_H} {Q : Option Value → dh_H → Prop} (k : ((¬ s0 = 0) → (((h 3 3) ≤ (h 3 4)) → dh_C G mX7_solve [.ref 37] h (fun v h1 => dh_J G mX9_whose 46 [some (.ref 0), some (.int (x1))] (v.toList ++ []) h1 Q)) ∧ ((¬ (h 3 3) ≤ (h 3 4)) → Q (some (.int ((-1000000003 : Int32)))) h)) ∧ ((s0 = 0) → Q (some (.int ((-1000000001 : Int32)))) h)) : dh_J G mX9_whose 13 [some (.ref 0), some (.int (x1))] [.int (s0)] h Q := by
  refine a_if_ne 19 dX9_whose_13 (by decide) (fun c1 => ?_) (fun c1 => ?_)
  · replace k := k.1 c1
    refine a_aload_n dX9_whose_19 rfl ?_
    refine a_getR dX9_whose_20 fF_RX9_19 rfl rfl ?_
    refine a_getI dX9_whose_23 fF_RX9_129 rfl rfl ?_
    refine a_aload_n dX9_whose_26 rfl ?_
    refine a_getR dX9_whose_27 fF_RX9_19 rfl rfl ?_
    refine a_getI dX9_whose_30 fF_RX9_117 rfl rfl ?_
    refine a_icmp_ge 39 dX9_whose_33 (by decide) (fun c2 => ?_) (fun c2 => ?_)
    · replace k := k.1 c2
      refine a_aload_n dX9_whose_39 rfl ?_
      refine a_getR dX9_whose_40 fF_RX9_52 rfl rfl ?_
      exact a_callV0 dX9_whose_43 (dh_Y_up cY_RX9_256 (by decide)) rfl rfl (Nat.le_of_ble_eq_true rfl) k
    · replace k := k.2 c2
      refine a_ldc dX9_whose_36 (v := (-1000000003 : Int32)) kK_RX9_214 ?_
      exact a_iret dX9_whose_38 rfl k
  · replace k := k.2 c1
    refine a_ldc dX9_whose_16 (v := (-1000000001 : Int32)) kK_RX9_154 ?_
    exact a_iret dX9_whose_18 rfl k
set_option maxRecDepth 100000 in
theorem w_X9_whose_46 {G : dh_G} {x1 : Int32} {h : dh_H} {Q : Option Value → dh_H → Prop} (k : ((¬ x1 = (-1 : Int32)) → dh_C G mX7_sureDummyOf [.ref 37, .int (x1)] h (fun v h1 => dh_J G mX9_whose 69 [none, none] (v.toList ++ []) h1 Q)) ∧ ((x1 = (-1 : Int32)) → dh_J G mX9_whose 69 [none, none] [.int (h 37 6)] h Q)) : dh_J G mX9_whose 46 [some (.ref 0), some (.int (x1))] [] h Q := by
  refine a_iload_n dX9_whose_46 rfl ?_
  refine a_iconst dX9_whose_47 (v := (-1 : Int32)) (by decide) ?_
  refine a_icmp_ne 61 dX9_whose_48 (by decide) (fun c1 => ?_) (fun c1 => ?_)
  · replace k := k.1 c1
    refine a_aload_n dX9_whose_61 rfl ?_
    refine a_getR dX9_whose_62 fF_RX9_52 rfl rfl ?_
    refine a_iload_n dX9_whose_65 rfl ?_
    refine dh_drop 0 ?_
    refine dh_drop 1 ?_
    exact a_callV1 dX9_whose_66 (dh_Y_up cY_RX9_262 (by decide)) rfl rfl (Nat.le_of_ble_eq_true rfl) k
  · replace k := k.2 c1
    refine a_aload_n dX9_whose_51 rfl ?_
    refine a_getR dX9_whose_52 fF_RX9_52 rfl rfl ?_
    refine a_getI dX9_whose_55 fF_RX9_259 rfl rfl ?_
    refine a_goto 69 dX9_whose_58 (by decide) ?_
    refine dh_drop 0 ?_
    refine dh_drop 1 ?_
    exact k
set_option maxRecDepth 100000 in
theorem w_X9_whose_69 {G : dh_G} {s0 : Int32} {h : dh_H} {Q : Option Value → dh_H → Prop} (k : Q (some (.int (s0))) h) : dh_J G mX9_whose 69 [none, none] [.int (s0)] h Q := by
  exact a_iret dX9_whose_69 rfl k
set_option maxRecDepth 100000 in
theorem w_X9_next_0 {G : dh_G} {h : dh_H} {Q : Option Value → dh_H → Prop} (k : (((h 3 3) ≤ (h 3 4)) → dh_C G mX7_solve [.ref 37] h (fun v h1 => dh_J G mX9_next 27 [some (.ref 0)] (v.toList ++ []) h1 Q)) ∧ ((¬ (h 3 3) ≤ (h 3 4)) → Q (some (.int ((-1000000003 : Int32)))) h)) : dh_J G mX9_next 0 [some (.ref 0)] [] h Q := by
  refine a_aload_n dX9_next_0 rfl ?_
  refine a_getR dX9_next_1 fF_RX9_19 rfl rfl ?_
  refine a_getI dX9_next_4 fF_RX9_129 rfl rfl ?_
  refine a_aload_n dX9_next_7 rfl ?_
  refine a_getR dX9_next_8 fF_RX9_19 rfl rfl ?_
  refine a_getI dX9_next_11 fF_RX9_117 rfl rfl ?_
  refine a_icmp_ge 20 dX9_next_14 (by decide) (fun c1 => ?_) (fun c1 => ?_)
  · replace k := k.1 c1
    refine a_aload_n dX9_next_20 rfl ?_
    refine a_getR dX9_next_21 fF_RX9_52 rfl rfl ?_
    exact a_callV0 dX9_next_24 (dh_Y_up cY_RX9_256 (by decide)) rfl rfl (Nat.le_of_ble_eq_true rfl) k
  · replace k := k.2 c1
    refine a_ldc dX9_next_17 (v := (-1000000003 : Int32)) kK_RX9_214 ?_
    exact a_iret dX9_next_19 rfl k
theorem e_X9_next {G : dh_G} {h : dh_H} {Q : Option Value → dh_H → Prop} (k : (((h 3 3) ≤ (h 3 4)) → dh_C G mX7_solve [.ref 37] h (fun v h1 => dh_J G mX9_next 27 [some (.ref 0)] (v.toList ++ []) h1 Q)) ∧ ((¬ (h 3 3) ≤ (h 3 4)) → Q (some (.int ((-1000000003 : Int32)))) h)) : dh_C G mX9_next [.ref 0] h Q := dh_C_of [some (.ref 0)] (by decide) (Nat.le_of_ble_eq_true rfl) rfl (w_X9_next_0 k)
set_option maxRecDepth 100000 in
theorem w_X9_next_27 {G : dh_G} {h : dh_H} {Q : Option Value → dh_H → Prop} (k : dh_C G mX7_bestQuestion [.ref 37] h (fun v h1 => dh_J G mX9_next 34 [none] (v.toList ++ []) h1 Q)) : dh_J G mX9_next 27 [some (.ref 0)] [] h Q := by
  refine a_aload_n dX9_next_27 rfl ?_
  refine a_getR dX9_next_28 fF_RX9_52 rfl rfl ?_
  refine dh_drop 0 ?_
  exact a_callV0 dX9_next_31 (dh_Y_up cY_RX9_265 (by decide)) rfl rfl (Nat.le_of_ble_eq_true rfl) k
set_option maxRecDepth 100000 in
theorem w_X9_next_34 {G : dh_G} {s0 : Int32} {h : dh_H} {Q : Option Value → dh_H → Prop} (k : Q (some (.int (s0))) h) : dh_J G mX9_next 34 [none] [.int (s0)] h Q := by
  exact a_iret dX9_next_34 rfl k
set_option maxRecDepth 100000 in
theorem w_X9_write_0 {G : dh_G} {x1 x2 : Int32} {h : dh_H} {Q : Option Value → dh_H → Prop} (k : dh_C G mX5_hasDummy [.ref 3, .int (x1)] h (fun v h1 => dh_J G mX9_write 8 [some (.ref 0), some (.int (x1)), some (.int (x2))] (v.toList ++ []) h1 Q)) : dh_J G mX9_write 0 [some (.ref 0), some (.int (x1)), some (.int (x2))] [] h Q := by
  refine a_aload_n dX9_write_0 rfl ?_
  refine a_getR dX9_write_1 fF_RX9_19 rfl rfl ?_
  refine a_iload_n dX9_write_4 rfl ?_
  exact a_callV1 dX9_write_5 (dh_Y_up cY_RX9_173 (by decide)) rfl rfl (Nat.le_of_ble_eq_true rfl) k
theorem e_X9_write {G : dh_G} {x1 x2 : Int32} {h : dh_H} {Q : Option Value → dh_H → Prop} (k : dh_C G mX5_hasDummy [.ref 3, .int (x1)] h (fun v h1 => dh_J G mX9_write 8 [some (.ref 0), some (.int (x1)), some (.int (x2))] (v.toList ++ []) h1 Q)) : dh_C G mX9_write [.ref 0, .int (x1), .int (x2)] h Q := dh_C_of [some (.ref 0), some (.int (x1)), some (.int (x2))] (by decide) (Nat.le_of_ble_eq_true rfl) rfl (w_X9_write_0 k)
set_option maxRecDepth 100000 in
theorem w_X9_write_8 {G : dh_G} {x1 x2 s0 : Int32} {h : dh_H} {Q : Option Value → dh_H → Prop} (k : ((s0 = 0) → Q (some (.int ((-1000000001 : Int32)))) h) ∧ ((¬ s0 = 0) → ((x2 = (-1 : Int32)) → dh_C G mX0_append [.ref 51, .int (x1), .int (x2)] h (fun v h1 => dh_J G mX9_write 39 [some (.ref 0), none, none] (v.toList ++ []) h1 Q)) ∧ ((¬ x2 = (-1 : Int32)) → dh_C G mX5_hasChild [.ref 3, .int (x2)] h (fun v h1 => dh_J G mX9_write 24 [some (.ref 0), some (.int (x1)), some (.int (x2))] (v.toList ++ []) h1 Q)))) : dh_J G mX9_write 8 [some (.ref 0), some (.int (x1)), some (.int (x2))] [.int (s0)] h Q := by
  refine a_if_eq 27 dX9_write_8 (by decide) (fun c1 => ?_) (fun c1 => ?_)
  · replace k := k.1 c1
    refine a_ldc dX9_write_27 (v := (-1000000001 : Int32)) kK_RX9_154 ?_
    exact a_iret dX9_write_29 rfl k
  · replace k := k.2 c1
    refine a_iload_n dX9_write_11 rfl ?_
    refine a_iconst dX9_write_12 (v := (-1 : Int32)) (by decide) ?_
    refine a_icmp_eq 30 dX9_write_13 (by decide) (fun c2 => ?_) (fun c2 => ?_)
    · replace k := k.1 c2
      refine a_aload_n dX9_write_30 rfl ?_
      refine a_getR dX9_write_31 fF_RX9_59 rfl rfl ?_
      refine a_iload_n dX9_write_34 rfl ?_
      refine a_iload_n dX9_write_35 rfl ?_
      refine dh_drop 1 ?_
      refine dh_drop 2 ?_
      exact a_callV2 dX9_write_36 (dh_Y_up cY_RX9_268 (by decide)) rfl rfl (Nat.le_of_ble_eq_true rfl) k
    · replace k := k.2 c2
      refine a_aload_n dX9_write_16 rfl ?_
      refine a_getR dX9_write_17 fF_RX9_19 rfl rfl ?_
      refine a_iload_n dX9_write_20 rfl ?_
      exact a_callV1 dX9_write_21 (dh_Y_up cY_RX9_151 (by decide)) rfl rfl (Nat.le_of_ble_eq_true rfl) k
set_option maxRecDepth 100000 in
theorem w_X9_write_24 {G : dh_G} {x1 x2 s0 : Int32} {h : dh_H} {Q : Option Value → dh_H → Prop} (k : ((¬ s0 = 0) → dh_C G mX0_append [.ref 51, .int (x1), .int (x2)] h (fun v h1 => dh_J G mX9_write 39 [some (.ref 0), none, none] (v.toList ++ []) h1 Q)) ∧ ((s0 = 0) → Q (some (.int ((-1000000001 : Int32)))) h)) : dh_J G mX9_write 24 [some (.ref 0), some (.int (x1)), some (.int (x2))] [.int (s0)] h Q := by
  refine a_if_ne 30 dX9_write_24 (by decide) (fun c1 => ?_) (fun c1 => ?_)
  · replace k := k.1 c1
    refine a_aload_n dX9_write_30 rfl ?_
    refine a_getR dX9_write_31 fF_RX9_59 rfl rfl ?_
    refine a_iload_n dX9_write_34 rfl ?_
    refine a_iload_n dX9_write_35 rfl ?_
    refine dh_drop 1 ?_
    refine dh_drop 2 ?_
    exact a_callV2 dX9_write_36 (dh_Y_up cY_RX9_268 (by decide)) rfl rfl (Nat.le_of_ble_eq_true rfl) k
  · replace k := k.2 c1
    refine a_ldc dX9_write_27 (v := (-1000000001 : Int32)) kK_RX9_154 ?_
    exact a_iret dX9_write_29 rfl k
set_option maxRecDepth 100000 in
theorem w_X9_write_39 {G : dh_G} {s0 : Int32} {h : dh_H} {Q : Option Value → dh_H → Prop} (k : ((s0 = 0) → Q (some (.int ((-1000000004 : Int32)))) h) ∧ ((¬ s0 = 0) → Q (some (.int (h 51 0))) h)) : dh_J G mX9_write 39 [some (.ref 0), none, none] [.int (s0)] h Q := by
  refine a_if_eq 52 dX9_write_39 (by decide) (fun c1 => ?_) (fun c1 => ?_)
  · replace k := k.1 c1
    refine a_ldc dX9_write_52 (v := (-1000000004 : Int32)) kK_RX9_90 ?_
    exact a_iret dX9_write_54 rfl k
  · replace k := k.2 c1
    refine a_aload_n dX9_write_42 rfl ?_
    refine a_getR dX9_write_43 fF_RX9_59 rfl rfl ?_
    refine a_getI dX9_write_46 fF_RX9_110 rfl rfl ?_
    refine a_goto 54 dX9_write_49 (by decide) ?_
    exact a_iret dX9_write_54 rfl k
set_option maxRecDepth 100000 in
theorem w_X9_tear_0 {G : dh_G} {h : dh_H} {Q : Option Value → dh_H → Prop} (k : dh_C G mX7_clear [.ref 37] h (fun v h1 => dh_J G mX9_tear 23 [some (.ref 0), some (.int ((h 37 1) + (h 51 0)))] (v.toList ++ []) h1 Q)) : dh_J G mX9_tear 0 [some (.ref 0), none] [] h Q := by
  refine a_aload_n dX9_tear_0 rfl ?_
  refine a_getR dX9_tear_1 fF_RX9_52 rfl rfl ?_
  refine a_getI dX9_tear_4 fF_RX9_149 rfl rfl ?_
  refine a_aload_n dX9_tear_7 rfl ?_
  refine a_getR dX9_tear_8 fF_RX9_59 rfl rfl ?_
  refine a_getI dX9_tear_11 fF_RX9_110 rfl rfl ?_
  refine a_iadd dX9_tear_14 ?_
  refine a_istore_n dX9_tear_15 (by decide) rfl ?_
  refine a_aload_n dX9_tear_16 rfl ?_
  refine a_getR dX9_tear_17 fF_RX9_52 rfl rfl ?_
  exact a_callV0 dX9_tear_20 (dh_Y_up cY_RX9_107 (by decide)) rfl rfl (Nat.le_of_ble_eq_true rfl) k
theorem e_X9_tear {G : dh_G} {h : dh_H} {Q : Option Value → dh_H → Prop} (k : dh_C G mX7_clear [.ref 37] h (fun v h1 => dh_J G mX9_tear 23 [some (.ref 0), some (.int ((h 37 1) + (h 51 0)))] (v.toList ++ []) h1 Q)) : dh_C G mX9_tear [.ref 0] h Q := dh_C_of [some (.ref 0), none] (by decide) (Nat.le_of_ble_eq_true rfl) rfl (w_X9_tear_0 k)
set_option maxRecDepth 100000 in
theorem w_X9_tear_23 {G : dh_G} {x1 : Int32} {h : dh_H} {Q : Option Value → dh_H → Prop} (k : Q (some (.int (x1))) (dh_s h 51 0 (nI 0))) : dh_J G mX9_tear 23 [some (.ref 0), some (.int (x1))] [] h Q := by
  refine a_aload_n dX9_tear_23 rfl ?_
  refine a_getR dX9_tear_24 fF_RX9_59 rfl rfl ?_
  refine a_iconst dX9_tear_27 (v := nI 0) (by decide) ?_
  refine a_put dX9_tear_28 fF_RX9_110 rfl rfl rfl rfl ?_
  refine a_iload_n dX9_tear_31 rfl ?_
  exact a_iret dX9_tear_32 rfl k
set_option maxRecDepth 100000 in
theorem w_X9_judge_0 {G : dh_G} {h : dh_H} {Q : Option Value → dh_H → Prop} (k : dh_C G mX0_firstWrong [.ref 51, .ref 19] h (fun v h1 => dh_J G mX9_judge 11 [none] (v.toList ++ []) h1 Q)) : dh_J G mX9_judge 0 [some (.ref 0)] [] h Q := by
  refine a_aload_n dX9_judge_0 rfl ?_
  refine a_getR dX9_judge_1 fF_RX9_59 rfl rfl ?_
  refine a_aload_n dX9_judge_4 rfl ?_
  refine a_getR dX9_judge_5 fF_RX9_31 rfl rfl ?_
  refine dh_drop 0 ?_
  exact a_callV1 dX9_judge_8 (dh_Y_up cY_RX9_270 (by decide)) rfl rfl (Nat.le_of_ble_eq_true rfl) k
theorem e_X9_judge {G : dh_G} {h : dh_H} {Q : Option Value → dh_H → Prop} (k : dh_C G mX0_firstWrong [.ref 51, .ref 19] h (fun v h1 => dh_J G mX9_judge 11 [none] (v.toList ++ []) h1 Q)) : dh_C G mX9_judge [.ref 0] h Q := dh_C_of [some (.ref 0)] (by decide) (Nat.le_of_ble_eq_true rfl) rfl (w_X9_judge_0 k)
set_option maxRecDepth 100000 in
theorem w_X9_judge_11 {G : dh_G} {s0 : Int32} {h : dh_H} {Q : Option Value → dh_H → Prop} (k : Q (some (.int (s0))) h) : dh_J G mX9_judge 11 [none] [.int (s0)] h Q := by
  exact a_iret dX9_judge_11 rfl k
set_option maxRecDepth 100000 in
theorem w_X9_seed_0 {G : dh_G} {x1 : Int32} {h : dh_H} {Q : Option Value → dh_H → Prop} (k : ((0 ≤ x1) → Q (some (.int (h 54 0))) (dh_s h 54 0 x1)) ∧ ((¬ 0 ≤ x1) → Q (some (.int ((-1000000002 : Int32)))) h)) : dh_J G mX9_seed 0 [some (.ref 0), some (.int (x1)), none] [] h Q := by
  refine a_iload_n dX9_seed_0 rfl ?_
  refine a_if_ge 7 dX9_seed_1 (by decide) (fun c1 => ?_) (fun c1 => ?_)
  · replace k := k.1 c1
    refine a_aload_n dX9_seed_7 rfl ?_
    refine a_getR dX9_seed_8 fF_RX9_66 rfl rfl ?_
    refine a_getI dX9_seed_11 fF_RX9_274 rfl rfl ?_
    refine a_istore_n dX9_seed_14 (by decide) rfl ?_
    refine a_aload_n dX9_seed_15 rfl ?_
    refine a_getR dX9_seed_16 fF_RX9_66 rfl rfl ?_
    refine a_iload_n dX9_seed_19 rfl ?_
    refine a_put dX9_seed_20 fF_RX9_274 rfl rfl rfl rfl ?_
    refine a_iload_n dX9_seed_23 rfl ?_
    exact a_iret dX9_seed_24 rfl k
  · replace k := k.2 c1
    refine a_ldc dX9_seed_4 (v := (-1000000002 : Int32)) kK_RX9_81 ?_
    exact a_iret dX9_seed_6 rfl k
theorem e_X9_seed {G : dh_G} {x1 : Int32} {h : dh_H} {Q : Option Value → dh_H → Prop} (k : ((0 ≤ x1) → Q (some (.int (h 54 0))) (dh_s h 54 0 x1)) ∧ ((¬ 0 ≤ x1) → Q (some (.int ((-1000000002 : Int32)))) h)) : dh_C G mX9_seed [.ref 0, .int (x1)] h Q := dh_C_of [some (.ref 0), some (.int (x1)), none] (by decide) (Nat.le_of_ble_eq_true rfl) rfl (w_X9_seed_0 k)
set_option maxRecDepth 100000 in
theorem w_X9_keep_N_0 {G : dh_G} {x1 : Int32} {h : dh_H} {Q : Option Value → dh_H → Prop} (k : dh_C G mX9_imageAt [.ref 0, .int (x1)] h (fun v h1 => dh_J G mX9_keep 5 [none, none, none] (v.toList ++ []) h1 Q)) : dh_J G mX9_keep 0 [some (.ref 0), some (.int (x1)), none] [] h Q := by
  refine a_aload_n dX9_keep_0 rfl ?_
  refine a_iload_n dX9_keep_1 rfl ?_
  refine dh_drop 0 ?_
  refine dh_drop 1 ?_
  exact a_callV1 dX9_keep_2 (dh_Y_up cY_RX9_277 (by decide)) rfl rfl (Nat.le_of_ble_eq_true rfl) k
theorem e_X9_keep_N {G : dh_G} {x1 : Int32} {h : dh_H} {Q : Option Value → dh_H → Prop} (k : dh_C G mX9_imageAt [.ref 0, .int (x1)] h (fun v h1 => dh_J G mX9_keep 5 [none, none, none] (v.toList ++ []) h1 Q)) : dh_C G mX9_keep [.ref 0, .int (x1)] h Q := dh_C_of [some (.ref 0), some (.int (x1)), none] (by decide) (Nat.le_of_ble_eq_true rfl) rfl (w_X9_keep_N_0 k)
set_option maxRecDepth 100000 in
theorem w_X9_keep_N_5 {G : dh_G} {h : dh_H} {Q : Option Value → dh_H → Prop} (k : Q (some (.int ((-1000000001 : Int32)))) h) : dh_J G mX9_keep 5 [none, none, none] [.null] h Q := by
  refine a_astore_nN dX9_keep_5 (by decide) rfl ?_
  refine a_aload_nN dX9_keep_6 rfl ?_
  refine a_ifnonnullN dX9_keep_7 ?_
  refine a_ldc dX9_keep_10 (v := (-1000000001 : Int32)) kK_RX9_154 ?_
  exact a_iret dX9_keep_12 rfl k
set_option maxRecDepth 100000 in
theorem w_X9_keep_56_0 {G : dh_G} {x1 : Int32} {h : dh_H} {Q : Option Value → dh_H → Prop} (k : dh_C G mX9_imageAt [.ref 0, .int (x1)] h (fun v h1 => dh_J G mX9_keep 5 [some (.ref 0), none, none] (v.toList ++ []) h1 Q)) : dh_J G mX9_keep 0 [some (.ref 0), some (.int (x1)), none] [] h Q := by
  refine a_aload_n dX9_keep_0 rfl ?_
  refine a_iload_n dX9_keep_1 rfl ?_
  refine dh_drop 1 ?_
  exact a_callV1 dX9_keep_2 (dh_Y_up cY_RX9_277 (by decide)) rfl rfl (Nat.le_of_ble_eq_true rfl) k
theorem e_X9_keep_56 {G : dh_G} {x1 : Int32} {h : dh_H} {Q : Option Value → dh_H → Prop} (k : dh_C G mX9_imageAt [.ref 0, .int (x1)] h (fun v h1 => dh_J G mX9_keep 5 [some (.ref 0), none, none] (v.toList ++ []) h1 Q)) : dh_C G mX9_keep [.ref 0, .int (x1)] h Q := dh_C_of [some (.ref 0), some (.int (x1)), none] (by decide) (Nat.le_of_ble_eq_true rfl) rfl (w_X9_keep_56_0 k)
set_option maxRecDepth 100000 in
theorem w_X9_keep_56_5 {G : dh_G} {h : dh_H} {Q : Option Value → dh_H → Prop} (k : dh_C G mX2_takeFrom [.ref 56, .ref 19, .ref 54] h (fun v h1 => dh_J G mX9_keep 25 [some (.ref 0), none, none] (v.toList ++ []) h1 Q)) : dh_J G mX9_keep 5 [some (.ref 0), none, none] [.ref 56] h Q := by
  refine a_astore_n dX9_keep_5 (by decide) rfl ?_
  refine a_aload_n dX9_keep_6 rfl ?_
  refine a_ifnonnull 13 dX9_keep_7 (by decide) ?_
  refine a_aload_n dX9_keep_13 rfl ?_
  refine a_aload_n dX9_keep_14 rfl ?_
  refine a_getR dX9_keep_15 fF_RX9_31 rfl rfl ?_
  refine a_aload_n dX9_keep_18 rfl ?_
  refine a_getR dX9_keep_19 fF_RX9_66 rfl rfl ?_
  refine dh_drop 2 ?_
  exact a_callV2 dX9_keep_22 (dh_Y_up cY_RX9_281 (by decide)) rfl rfl (Nat.le_of_ble_eq_true rfl) k
set_option maxRecDepth 100000 in
theorem w_X9_keep_56_25 {G : dh_G} {h : dh_H} {Q : Option Value → dh_H → Prop} (k : dh_C G mX4_forget [.ref 25] h (fun v h1 => dh_J G mX9_keep 32 [none, none, none] (v.toList ++ []) h1 Q)) : dh_J G mX9_keep 25 [some (.ref 0), none, none] [] h Q := by
  refine a_aload_n dX9_keep_25 rfl ?_
  refine a_getR dX9_keep_26 fF_RX9_38 rfl rfl ?_
  refine dh_drop 0 ?_
  exact a_callV0 dX9_keep_29 (dh_Y_up cY_RX9_104 (by decide)) rfl rfl (Nat.le_of_ble_eq_true rfl) k
set_option maxRecDepth 100000 in
theorem w_X9_keep_56_32 {G : dh_G} {h : dh_H} {Q : Option Value → dh_H → Prop} (k : Q (some (.int (nI 1))) h) : dh_J G mX9_keep 32 [none, none, none] [] h Q := by
  refine a_iconst dX9_keep_32 (v := nI 1) (by decide) ?_
  exact a_iret dX9_keep_33 rfl k
set_option maxRecDepth 100000 in
theorem w_X9_keep_58_0 {G : dh_G} {x1 : Int32} {h : dh_H} {Q : Option Value → dh_H → Prop} (k : dh_C G mX9_imageAt [.ref 0, .int (x1)] h (fun v h1 => dh_J G mX9_keep 5 [some (.ref 0), none, none] (v.toList ++ []) h1 Q)) : dh_J G mX9_keep 0 [some (.ref 0), some (.int (x1)), none] [] h Q := by
  refine a_aload_n dX9_keep_0 rfl ?_
  refine a_iload_n dX9_keep_1 rfl ?_
  refine dh_drop 1 ?_
  exact a_callV1 dX9_keep_2 (dh_Y_up cY_RX9_277 (by decide)) rfl rfl (Nat.le_of_ble_eq_true rfl) k
theorem e_X9_keep_58 {G : dh_G} {x1 : Int32} {h : dh_H} {Q : Option Value → dh_H → Prop} (k : dh_C G mX9_imageAt [.ref 0, .int (x1)] h (fun v h1 => dh_J G mX9_keep 5 [some (.ref 0), none, none] (v.toList ++ []) h1 Q)) : dh_C G mX9_keep [.ref 0, .int (x1)] h Q := dh_C_of [some (.ref 0), some (.int (x1)), none] (by decide) (Nat.le_of_ble_eq_true rfl) rfl (w_X9_keep_58_0 k)
set_option maxRecDepth 100000 in
theorem w_X9_keep_58_5 {G : dh_G} {h : dh_H} {Q : Option Value → dh_H → Prop} (k : dh_C G mX2_takeFrom [.ref 58, .ref 19, .ref 54] h (fun v h1 => dh_J G mX9_keep 25 [some (.ref 0), none, none] (v.toList ++ []) h1 Q)) : dh_J G mX9_keep 5 [some (.ref 0), none, none] [.ref 58] h Q := by
  refine a_astore_n dX9_keep_5 (by decide) rfl ?_
  refine a_aload_n dX9_keep_6 rfl ?_
  refine a_ifnonnull 13 dX9_keep_7 (by decide) ?_
  refine a_aload_n dX9_keep_13 rfl ?_
  refine a_aload_n dX9_keep_14 rfl ?_
  refine a_getR dX9_keep_15 fF_RX9_31 rfl rfl ?_
  refine a_aload_n dX9_keep_18 rfl ?_
  refine a_getR dX9_keep_19 fF_RX9_66 rfl rfl ?_
  refine dh_drop 2 ?_
  exact a_callV2 dX9_keep_22 (dh_Y_up cY_RX9_281 (by decide)) rfl rfl (Nat.le_of_ble_eq_true rfl) k
set_option maxRecDepth 100000 in
theorem w_X9_keep_58_25 {G : dh_G} {h : dh_H} {Q : Option Value → dh_H → Prop} (k : dh_C G mX4_forget [.ref 25] h (fun v h1 => dh_J G mX9_keep 32 [none, none, none] (v.toList ++ []) h1 Q)) : dh_J G mX9_keep 25 [some (.ref 0), none, none] [] h Q := by
  refine a_aload_n dX9_keep_25 rfl ?_
  refine a_getR dX9_keep_26 fF_RX9_38 rfl rfl ?_
  refine dh_drop 0 ?_
  exact a_callV0 dX9_keep_29 (dh_Y_up cY_RX9_104 (by decide)) rfl rfl (Nat.le_of_ble_eq_true rfl) k
set_option maxRecDepth 100000 in
theorem w_X9_keep_58_32 {G : dh_G} {h : dh_H} {Q : Option Value → dh_H → Prop} (k : Q (some (.int (nI 1))) h) : dh_J G mX9_keep 32 [none, none, none] [] h Q := by
  refine a_iconst dX9_keep_32 (v := nI 1) (by decide) ?_
  exact a_iret dX9_keep_33 rfl k
set_option maxRecDepth 100000 in
theorem w_X9_goBack_N_0 {G : dh_G} {x1 : Int32} {h : dh_H} {Q : Option Value → dh_H → Prop} (k : dh_C G mX9_imageAt [.ref 0, .int (x1)] h (fun v h1 => dh_J G mX9_goBack 5 [none, none, none] (v.toList ++ []) h1 Q)) : dh_J G mX9_goBack 0 [some (.ref 0), some (.int (x1)), none] [] h Q := by
  refine a_aload_n dX9_goBack_0 rfl ?_
  refine a_iload_n dX9_goBack_1 rfl ?_
  refine dh_drop 0 ?_
  refine dh_drop 1 ?_
  exact a_callV1 dX9_goBack_2 (dh_Y_up cY_RX9_277 (by decide)) rfl rfl (Nat.le_of_ble_eq_true rfl) k
theorem e_X9_goBack_N {G : dh_G} {x1 : Int32} {h : dh_H} {Q : Option Value → dh_H → Prop} (k : dh_C G mX9_imageAt [.ref 0, .int (x1)] h (fun v h1 => dh_J G mX9_goBack 5 [none, none, none] (v.toList ++ []) h1 Q)) : dh_C G mX9_goBack [.ref 0, .int (x1)] h Q := dh_C_of [some (.ref 0), some (.int (x1)), none] (by decide) (Nat.le_of_ble_eq_true rfl) rfl (w_X9_goBack_N_0 k)
set_option maxRecDepth 100000 in
theorem w_X9_goBack_N_5 {G : dh_G} {h : dh_H} {Q : Option Value → dh_H → Prop} (k : Q (some (.int ((-1000000001 : Int32)))) h) : dh_J G mX9_goBack 5 [none, none, none] [.null] h Q := by
  refine a_astore_nN dX9_goBack_5 (by decide) rfl ?_
  refine a_aload_nN dX9_goBack_6 rfl ?_
  refine a_ifnonnullN dX9_goBack_7 ?_
  refine a_ldc dX9_goBack_10 (v := (-1000000001 : Int32)) kK_RX9_154 ?_
  exact a_iret dX9_goBack_12 rfl k
set_option maxRecDepth 100000 in
theorem w_X9_goBack_56_0 {G : dh_G} {x1 : Int32} {h : dh_H} {Q : Option Value → dh_H → Prop} (k : dh_C G mX9_imageAt [.ref 0, .int (x1)] h (fun v h1 => dh_J G mX9_goBack 5 [some (.ref 0), none, none] (v.toList ++ []) h1 Q)) : dh_J G mX9_goBack 0 [some (.ref 0), some (.int (x1)), none] [] h Q := by
  refine a_aload_n dX9_goBack_0 rfl ?_
  refine a_iload_n dX9_goBack_1 rfl ?_
  refine dh_drop 1 ?_
  exact a_callV1 dX9_goBack_2 (dh_Y_up cY_RX9_277 (by decide)) rfl rfl (Nat.le_of_ble_eq_true rfl) k
theorem e_X9_goBack_56 {G : dh_G} {x1 : Int32} {h : dh_H} {Q : Option Value → dh_H → Prop} (k : dh_C G mX9_imageAt [.ref 0, .int (x1)] h (fun v h1 => dh_J G mX9_goBack 5 [some (.ref 0), none, none] (v.toList ++ []) h1 Q)) : dh_C G mX9_goBack [.ref 0, .int (x1)] h Q := dh_C_of [some (.ref 0), some (.int (x1)), none] (by decide) (Nat.le_of_ble_eq_true rfl) rfl (w_X9_goBack_56_0 k)
set_option maxRecDepth 100000 in
theorem w_X9_goBack_56_5 {G : dh_G} {h : dh_H} {Q : Option Value → dh_H → Prop} (k : ((¬ (h 56 0) = 0) → dh_C G mX2_putInto [.ref 56, .ref 19, .ref 54] h (fun v h1 => dh_J G mX9_goBack 35 [some (.ref 0), none, none] (v.toList ++ []) h1 Q)) ∧ (((h 56 0) = 0) → Q (some (.int ((-1000000003 : Int32)))) h)) : dh_J G mX9_goBack 5 [some (.ref 0), none, none] [.ref 56] h Q := by
  refine a_astore_n dX9_goBack_5 (by decide) rfl ?_
  refine a_aload_n dX9_goBack_6 rfl ?_
  refine a_ifnonnull 13 dX9_goBack_7 (by decide) ?_
  refine a_aload_n dX9_goBack_13 rfl ?_
  refine a_getI dX9_goBack_14 fF_RX9_113 rfl rfl ?_
  refine a_if_ne 23 dX9_goBack_17 (by decide) (fun c1 => ?_) (fun c1 => ?_)
  · replace k := k.1 c1
    refine a_aload_n dX9_goBack_23 rfl ?_
    refine a_aload_n dX9_goBack_24 rfl ?_
    refine a_getR dX9_goBack_25 fF_RX9_31 rfl rfl ?_
    refine a_aload_n dX9_goBack_28 rfl ?_
    refine a_getR dX9_goBack_29 fF_RX9_66 rfl rfl ?_
    refine dh_drop 2 ?_
    exact a_callV2 dX9_goBack_32 (dh_Y_up cY_RX9_285 (by decide)) rfl rfl (Nat.le_of_ble_eq_true rfl) k
  · replace k := k.2 c1
    refine a_ldc dX9_goBack_20 (v := (-1000000003 : Int32)) kK_RX9_214 ?_
    exact a_iret dX9_goBack_22 rfl k
set_option maxRecDepth 100000 in
theorem w_X9_goBack_56_35 {G : dh_G} {h : dh_H} {Q : Option Value → dh_H → Prop} (k : dh_C G mX4_forget [.ref 25] h (fun v h1 => dh_J G mX9_goBack 42 [none, none, none] (v.toList ++ []) h1 Q)) : dh_J G mX9_goBack 35 [some (.ref 0), none, none] [] h Q := by
  refine a_aload_n dX9_goBack_35 rfl ?_
  refine a_getR dX9_goBack_36 fF_RX9_38 rfl rfl ?_
  refine dh_drop 0 ?_
  exact a_callV0 dX9_goBack_39 (dh_Y_up cY_RX9_104 (by decide)) rfl rfl (Nat.le_of_ble_eq_true rfl) k
set_option maxRecDepth 100000 in
theorem w_X9_goBack_56_42 {G : dh_G} {h : dh_H} {Q : Option Value → dh_H → Prop} (k : Q (some (.int (nI 1))) h) : dh_J G mX9_goBack 42 [none, none, none] [] h Q := by
  refine a_iconst dX9_goBack_42 (v := nI 1) (by decide) ?_
  exact a_iret dX9_goBack_43 rfl k
set_option maxRecDepth 100000 in
theorem w_X9_goBack_58_0 {G : dh_G} {x1 : Int32} {h : dh_H} {Q : Option Value → dh_H → Prop} (k : dh_C G mX9_imageAt [.ref 0, .int (x1)] h (fun v h1 => dh_J G mX9_goBack 5 [some (.ref 0), none, none] (v.toList ++ []) h1 Q)) : dh_J G mX9_goBack 0 [some (.ref 0), some (.int (x1)), none] [] h Q := by
  refine a_aload_n dX9_goBack_0 rfl ?_
  refine a_iload_n dX9_goBack_1 rfl ?_
  refine dh_drop 1 ?_
  exact a_callV1 dX9_goBack_2 (dh_Y_up cY_RX9_277 (by decide)) rfl rfl (Nat.le_of_ble_eq_true rfl) k
theorem e_X9_goBack_58 {G : dh_G} {x1 : Int32} {h : dh_H} {Q : Option Value → dh_H → Prop} (k : dh_C G mX9_imageAt [.ref 0, .int (x1)] h (fun v h1 => dh_J G mX9_goBack 5 [some (.ref 0), none, none] (v.toList ++ []) h1 Q)) : dh_C G mX9_goBack [.ref 0, .int (x1)] h Q := dh_C_of [some (.ref 0), some (.int (x1)), none] (by decide) (Nat.le_of_ble_eq_true rfl) rfl (w_X9_goBack_58_0 k)
set_option maxRecDepth 100000 in
theorem w_X9_goBack_58_5 {G : dh_G} {h : dh_H} {Q : Option Value → dh_H → Prop} (k : ((¬ (h 58 0) = 0) → dh_C G mX2_putInto [.ref 58, .ref 19, .ref 54] h (fun v h1 => dh_J G mX9_goBack 35 [some (.ref 0), none, none] (v.toList ++ []) h1 Q)) ∧ (((h 58 0) = 0) → Q (some (.int ((-1000000003 : Int32)))) h)) : dh_J G mX9_goBack 5 [some (.ref 0), none, none] [.ref 58] h Q := by
  refine a_astore_n dX9_goBack_5 (by decide) rfl ?_
  refine a_aload_n dX9_goBack_6 rfl ?_
  refine a_ifnonnull 13 dX9_goBack_7 (by decide) ?_
  refine a_aload_n dX9_goBack_13 rfl ?_
  refine a_getI dX9_goBack_14 fF_RX9_113 rfl rfl ?_
  refine a_if_ne 23 dX9_goBack_17 (by decide) (fun c1 => ?_) (fun c1 => ?_)
  · replace k := k.1 c1
    refine a_aload_n dX9_goBack_23 rfl ?_
    refine a_aload_n dX9_goBack_24 rfl ?_
    refine a_getR dX9_goBack_25 fF_RX9_31 rfl rfl ?_
    refine a_aload_n dX9_goBack_28 rfl ?_
    refine a_getR dX9_goBack_29 fF_RX9_66 rfl rfl ?_
    refine dh_drop 2 ?_
    exact a_callV2 dX9_goBack_32 (dh_Y_up cY_RX9_285 (by decide)) rfl rfl (Nat.le_of_ble_eq_true rfl) k
  · replace k := k.2 c1
    refine a_ldc dX9_goBack_20 (v := (-1000000003 : Int32)) kK_RX9_214 ?_
    exact a_iret dX9_goBack_22 rfl k
set_option maxRecDepth 100000 in
theorem w_X9_goBack_58_35 {G : dh_G} {h : dh_H} {Q : Option Value → dh_H → Prop} (k : dh_C G mX4_forget [.ref 25] h (fun v h1 => dh_J G mX9_goBack 42 [none, none, none] (v.toList ++ []) h1 Q)) : dh_J G mX9_goBack 35 [some (.ref 0), none, none] [] h Q := by
  refine a_aload_n dX9_goBack_35 rfl ?_
  refine a_getR dX9_goBack_36 fF_RX9_38 rfl rfl ?_
  refine dh_drop 0 ?_
  exact a_callV0 dX9_goBack_39 (dh_Y_up cY_RX9_104 (by decide)) rfl rfl (Nat.le_of_ble_eq_true rfl) k
set_option maxRecDepth 100000 in
theorem w_X9_goBack_58_42 {G : dh_G} {h : dh_H} {Q : Option Value → dh_H → Prop} (k : Q (some (.int (nI 1))) h) : dh_J G mX9_goBack 42 [none, none, none] [] h Q := by
  refine a_iconst dX9_goBack_42 (v := nI 1) (by decide) ?_
  exact a_iret dX9_goBack_43 rfl k
set_option maxRecDepth 100000 in
theorem w_X9_imageAt_0 {G : dh_G} {x1 : Int32} {h : dh_H} {Q : Option Value → dh_H → Prop} (k : ((x1 < 0) → Q (some (.null)) h) ∧ ((¬ x1 < 0) → (((nI 2) ≤ x1) → Q (some (.null)) h) ∧ ((¬ (nI 2) ≤ x1) → (vp_in x1 2) ∧ ∃ r3 q7, ([56, 58][x1.toNatClampNeg]? = some r3) ∧ (dh_LAY[r3]? = some (.inl (2, [none, none, some q7]))) ∧ Q (some (.ref r3)) h))) : dh_J G mX9_imageAt 0 [some (.ref 0), some (.int (x1))] [] h Q := by
  refine a_iload_n dX9_imageAt_0 rfl ?_
  refine a_if_lt 22 dX9_imageAt_1 (by decide) (fun c1 => ?_) (fun c1 => ?_)
  · replace k := k.1 c1
    refine a_null dX9_imageAt_22 ?_
    exact a_aret dX9_imageAt_23 rfl (Or.inl rfl) k
  · replace k := k.2 c1
    refine a_iload_n dX9_imageAt_4 rfl ?_
    refine a_aload_n dX9_imageAt_5 rfl ?_
    refine a_getR dX9_imageAt_6 fF_RX9_72 rfl rfl ?_
    refine a_alenR dX9_imageAt_9 rfl ?_
    refine a_icmp_ge 22 dX9_imageAt_10 (by decide) (fun c2 => ?_) (fun c2 => ?_)
    · replace k := k.1 c2
      refine a_null dX9_imageAt_22 ?_
      exact a_aret dX9_imageAt_23 rfl (Or.inl rfl) k
    · replace k := k.2 c2
      refine a_aload_n dX9_imageAt_13 rfl ?_
      refine a_getR dX9_imageAt_14 fF_RX9_72 rfl rfl ?_
      refine a_iload_n dX9_imageAt_17 rfl ?_
      obtain ⟨e4, r3, q7, e5, e6, k⟩ := k
      refine a_aald dX9_imageAt_18 rfl (Or.inl rfl) e4 e5 ?_
      refine a_goto 23 dX9_imageAt_19 (by decide) ?_
      exact a_aret dX9_imageAt_23 rfl (Or.inr ⟨_, rfl⟩) k
theorem e_X9_imageAt {G : dh_G} {x1 : Int32} {h : dh_H} {Q : Option Value → dh_H → Prop} (k : ((x1 < 0) → Q (some (.null)) h) ∧ ((¬ x1 < 0) → (((nI 2) ≤ x1) → Q (some (.null)) h) ∧ ((¬ (nI 2) ≤ x1) → (vp_in x1 2) ∧ ∃ r3 q7, ([56, 58][x1.toNatClampNeg]? = some r3) ∧ (dh_LAY[r3]? = some (.inl (2, [none, none, some q7]))) ∧ Q (some (.ref r3)) h))) : dh_C G mX9_imageAt [.ref 0, .int (x1)] h Q := dh_C_of [some (.ref 0), some (.int (x1))] (by decide) (Nat.le_of_ble_eq_true rfl) rfl (w_X9_imageAt_0 k)
set_option maxRecDepth 100000 in
theorem w_X9_refusalOfHours_0 {G : dh_G} {x1 : Int32} {h : dh_H} {Q : Option Value → dh_H → Prop} (k : ((x1 < (nI 1)) → Q (some (.int ((-1000000002 : Int32)))) h) ∧ ((¬ x1 < (nI 1)) → ((x1 ≤ (nI 60)) → ((¬ (h 3 0) = 0) → (((h 19 1) ≤ (nI 9000)) → Q (some (.int (nI 0))) h) ∧ ((¬ (h 19 1) ≤ (nI 9000)) → Q (some (.int ((-1000000004 : Int32)))) h)) ∧ (((h 3 0) = 0) → Q (some (.int ((-1000000003 : Int32)))) h)) ∧ ((¬ x1 ≤ (nI 60)) → Q (some (.int ((-1000000002 : Int32)))) h))) : dh_J G mX9_refusalOfHours 0 [some (.ref 0), some (.int (x1))] [] h Q := by
  refine a_iload_n dX9_refusalOfHours_0 rfl ?_
  refine a_iconst dX9_refusalOfHours_1 (v := nI 1) (by decide) ?_
  refine a_icmp_lt 11 dX9_refusalOfHours_2 (by decide) (fun c1 => ?_) (fun c1 => ?_)
  · replace k := k.1 c1
    refine a_ldc dX9_refusalOfHours_11 (v := (-1000000002 : Int32)) kK_RX9_81 ?_
    exact a_iret dX9_refusalOfHours_13 rfl k
  · replace k := k.2 c1
    refine a_iload_n dX9_refusalOfHours_5 rfl ?_
    refine a_bipush dX9_refusalOfHours_6 (v := nI 60) (by decide) ?_
    refine a_icmp_le 14 dX9_refusalOfHours_8 (by decide) (fun c2 => ?_) (fun c2 => ?_)
    · replace k := k.1 c2
      refine a_aload_n dX9_refusalOfHours_14 rfl ?_
      refine a_getR dX9_refusalOfHours_15 fF_RX9_19 rfl rfl ?_
      refine a_getI dX9_refusalOfHours_18 fF_RX9_288 rfl rfl ?_
      refine a_if_ne 27 dX9_refusalOfHours_21 (by decide) (fun c3 => ?_) (fun c3 => ?_)
      · replace k := k.1 c3
        refine a_aload_n dX9_refusalOfHours_27 rfl ?_
        refine a_getR dX9_refusalOfHours_28 fF_RX9_31 rfl rfl ?_
        refine a_getI dX9_refusalOfHours_31 fF_RX9_132 rfl rfl ?_
        refine a_sipush dX9_refusalOfHours_34 (v := nI 9000) (by decide) ?_
        refine a_icmp_le 45 dX9_refusalOfHours_37 (by decide) (fun c4 => ?_) (fun c4 => ?_)
        · replace k := k.1 c4
          refine a_iconst dX9_refusalOfHours_45 (v := nI 0) (by decide) ?_
          exact a_iret dX9_refusalOfHours_46 rfl k
        · replace k := k.2 c4
          refine a_ldc dX9_refusalOfHours_40 (v := (-1000000004 : Int32)) kK_RX9_90 ?_
          refine a_goto 46 dX9_refusalOfHours_42 (by decide) ?_
          exact a_iret dX9_refusalOfHours_46 rfl k
      · replace k := k.2 c3
        refine a_ldc dX9_refusalOfHours_24 (v := (-1000000003 : Int32)) kK_RX9_214 ?_
        exact a_iret dX9_refusalOfHours_26 rfl k
    · replace k := k.2 c2
      refine a_ldc dX9_refusalOfHours_11 (v := (-1000000002 : Int32)) kK_RX9_81 ?_
      exact a_iret dX9_refusalOfHours_13 rfl k
theorem e_X9_refusalOfHours {G : dh_G} {x1 : Int32} {h : dh_H} {Q : Option Value → dh_H → Prop} (k : ((x1 < (nI 1)) → Q (some (.int ((-1000000002 : Int32)))) h) ∧ ((¬ x1 < (nI 1)) → ((x1 ≤ (nI 60)) → ((¬ (h 3 0) = 0) → (((h 19 1) ≤ (nI 9000)) → Q (some (.int (nI 0))) h) ∧ ((¬ (h 19 1) ≤ (nI 9000)) → Q (some (.int ((-1000000004 : Int32)))) h)) ∧ (((h 3 0) = 0) → Q (some (.int ((-1000000003 : Int32)))) h)) ∧ ((¬ x1 ≤ (nI 60)) → Q (some (.int ((-1000000002 : Int32)))) h))) : dh_C G mX9_refusalOfHours [.ref 0, .int (x1)] h Q := dh_C_of [some (.ref 0), some (.int (x1))] (by decide) (Nat.le_of_ble_eq_true rfl) rfl (w_X9_refusalOfHours_0 k)
set_option maxRecDepth 100000 in
theorem w_X9_deedByDraws_0 {G : dh_G} {h : dh_H} {Q : Option Value → dh_H → Prop} (k : dh_C G mX1_draw [.ref 54, .int (h 3 4)] h (fun v h1 => dh_J G mX9_deedByDraws 14 [some (.ref 0), none, none, none] (v.toList ++ []) h1 Q)) : dh_J G mX9_deedByDraws 0 [some (.ref 0), none, none, none] [] h Q := by
  refine a_aload_n dX9_deedByDraws_0 rfl ?_
  refine a_getR dX9_deedByDraws_1 fF_RX9_66 rfl rfl ?_
  refine a_aload_n dX9_deedByDraws_4 rfl ?_
  refine a_getR dX9_deedByDraws_5 fF_RX9_19 rfl rfl ?_
  refine a_getI dX9_deedByDraws_8 fF_RX9_129 rfl rfl ?_
  exact a_callV1 dX9_deedByDraws_11 (dh_Y_up cY_RX9_291 (by decide)) rfl rfl (Nat.le_of_ble_eq_true rfl) k
theorem e_X9_deedByDraws {G : dh_G} {h : dh_H} {Q : Option Value → dh_H → Prop} (k : dh_C G mX1_draw [.ref 54, .int (h 3 4)] h (fun v h1 => dh_J G mX9_deedByDraws 14 [some (.ref 0), none, none, none] (v.toList ++ []) h1 Q)) : dh_C G mX9_deedByDraws [.ref 0] h Q := dh_C_of [some (.ref 0), none, none, none] (by decide) (Nat.le_of_ble_eq_true rfl) rfl (w_X9_deedByDraws_0 k)
set_option maxRecDepth 100000 in
theorem w_X9_deedByDraws_14 {G : dh_G} {s0 : Int32} {h : dh_H} {Q : Option Value → dh_H → Prop} (k : dh_C G mX1_draw [.ref 54, .int (h 3 3)] h (fun v h1 => dh_J G mX9_deedByDraws 29 [some (.ref 0), some (.int (s0)), none, none] (v.toList ++ []) h1 Q)) : dh_J G mX9_deedByDraws 14 [some (.ref 0), none, none, none] [.int (s0)] h Q := by
  refine a_istore_n dX9_deedByDraws_14 (by decide) rfl ?_
  refine a_aload_n dX9_deedByDraws_15 rfl ?_
  refine a_getR dX9_deedByDraws_16 fF_RX9_66 rfl rfl ?_
  refine a_aload_n dX9_deedByDraws_19 rfl ?_
  refine a_getR dX9_deedByDraws_20 fF_RX9_19 rfl rfl ?_
  refine a_getI dX9_deedByDraws_23 fF_RX9_117 rfl rfl ?_
  exact a_callV1 dX9_deedByDraws_26 (dh_Y_up cY_RX9_291 (by decide)) rfl rfl (Nat.le_of_ble_eq_true rfl) k
set_option maxRecDepth 100000 in
theorem w_X9_deedByDraws_29 {G : dh_G} {x1 s0 : Int32} {h : dh_H} {Q : Option Value → dh_H → Prop} (k : dh_C G mX1_draw [.ref 54, .int (nI 4)] h (fun v h1 => dh_J G mX9_deedByDraws 38 [some (.ref 0), some (.int (x1)), some (.int (s0)), none] (v.toList ++ []) h1 Q)) : dh_J G mX9_deedByDraws 29 [some (.ref 0), some (.int (x1)), none, none] [.int (s0)] h Q := by
  refine a_istore_n dX9_deedByDraws_29 (by decide) rfl ?_
  refine a_aload_n dX9_deedByDraws_30 rfl ?_
  refine a_getR dX9_deedByDraws_31 fF_RX9_66 rfl rfl ?_
  refine a_iconst dX9_deedByDraws_34 (v := nI 4) (by decide) ?_
  exact a_callV1 dX9_deedByDraws_35 (dh_Y_up cY_RX9_291 (by decide)) rfl rfl (Nat.le_of_ble_eq_true rfl) k
set_option maxRecDepth 100000 in
theorem w_X9_deedByDraws_38 {G : dh_G} {x1 x2 s0 : Int32} {h : dh_H} {Q : Option Value → dh_H → Prop} (k : ((¬ s0 = 0) → ((¬ s0 = (nI 1)) → dh_C G mX8_canHand [.ref 19, .int (x1), .int (x2)] h (fun v h1 => dh_J G mX9_deedByDraws 110 [some (.ref 0), some (.int (x1)), some (.int (x2)), none] (v.toList ++ []) h1 Q)) ∧ ((s0 = (nI 1)) → (vp_in x1 6) ∧ ((¬ (h 20 x1.toNatClampNeg) = (-2 : Int32)) → dh_J G mX9_deedByDraws 122 [some (.ref 0), none, some (.int (x2)), none] [] h Q) ∧ (((h 20 x1.toNatClampNeg) = (-2 : Int32)) → (vp_in x1 6) ∧ dh_J G mX9_deedByDraws 122 [some (.ref 0), none, some (.int (x2)), none] [] (dh_s h 20 x1.toNatClampNeg (-1 : Int32)) Q))) ∧ ((s0 = 0) → dh_C G mX8_holderOf [.ref 19, .int (x1)] h (fun v h1 => dh_J G mX9_deedByDraws 51 [some (.ref 0), some (.int (x1)), some (.int (x2)), none] (v.toList ++ []) h1 Q))) : dh_J G mX9_deedByDraws 38 [some (.ref 0), some (.int (x1)), some (.int (x2)), none] [.int (s0)] h Q := by
  refine a_istore_n dX9_deedByDraws_38 (by decide) rfl ?_
  refine a_iload_n dX9_deedByDraws_39 rfl ?_
  refine a_if_ne 69 dX9_deedByDraws_40 (by decide) (fun c1 => ?_) (fun c1 => ?_)
  · replace k := k.1 c1
    refine a_iload_n dX9_deedByDraws_69 rfl ?_
    refine a_iconst dX9_deedByDraws_70 (v := nI 1) (by decide) ?_
    refine a_icmp_ne 101 dX9_deedByDraws_71 (by decide) (fun c2 => ?_) (fun c2 => ?_)
    · replace k := k.1 c2
      refine a_aload_n dX9_deedByDraws_101 rfl ?_
      refine a_getR dX9_deedByDraws_102 fF_RX9_31 rfl rfl ?_
      refine a_iload_n dX9_deedByDraws_105 rfl ?_
      refine a_iload_n dX9_deedByDraws_106 rfl ?_
      refine dh_drop 3 ?_
      exact a_callV2 dX9_deedByDraws_107 (dh_Y_up cY_RX9_210 (by decide)) rfl rfl (Nat.le_of_ble_eq_true rfl) k
    · replace k := k.2 c2
      refine a_aload_n dX9_deedByDraws_74 rfl ?_
      refine a_getR dX9_deedByDraws_75 fF_RX9_31 rfl rfl ?_
      refine a_getR dX9_deedByDraws_78 fF_RX9_222 rfl rfl ?_
      refine a_iload_n dX9_deedByDraws_81 rfl ?_
      obtain ⟨e3, k⟩ := k
      refine a_iald dX9_deedByDraws_82 rfl e3 ?_
      refine a_bipush dX9_deedByDraws_83 (v := (-2 : Int32)) (by decide) ?_
      refine a_icmp_ne 122 dX9_deedByDraws_85 (by decide) (fun c4 => ?_) (fun c4 => ?_)
      · replace k := k.1 c4
        refine dh_drop 1 ?_
        refine dh_drop 3 ?_
        exact k
      · replace k := k.2 c4
        refine a_aload_n dX9_deedByDraws_88 rfl ?_
        refine a_getR dX9_deedByDraws_89 fF_RX9_31 rfl rfl ?_
        refine a_getR dX9_deedByDraws_92 fF_RX9_222 rfl rfl ?_
        refine a_iload_n dX9_deedByDraws_95 rfl ?_
        refine a_iconst dX9_deedByDraws_96 (v := (-1 : Int32)) (by decide) ?_
        obtain ⟨e5, k⟩ := k
        refine a_iast dX9_deedByDraws_97 rfl e5 ?_
        refine a_goto 122 dX9_deedByDraws_98 (by decide) ?_
        refine dh_drop 1 ?_
        refine dh_drop 3 ?_
        exact k
  · replace k := k.2 c1
    refine a_aload_n dX9_deedByDraws_43 rfl ?_
    refine a_getR dX9_deedByDraws_44 fF_RX9_31 rfl rfl ?_
    refine a_iload_n dX9_deedByDraws_47 rfl ?_
    refine dh_drop 3 ?_
    exact a_callV1 dX9_deedByDraws_48 (dh_Y_up cY_RX9_188 (by decide)) rfl rfl (Nat.le_of_ble_eq_true rfl) k
set_option maxRecDepth 100000 in
theorem w_X9_deedByDraws_51 {G : dh_G} {x1 x2 s0 : Int32} {h : dh_H} {Q : Option Value → dh_H → Prop} (k : ((s0 = (-1 : Int32)) → dh_J G mX9_deedByDraws 122 [some (.ref 0), none, some (.int (x2)), none] [] h Q) ∧ ((¬ s0 = (-1 : Int32)) → (vp_in x1 6) ∧ dh_J G mX9_deedByDraws 122 [some (.ref 0), none, some (.int (x2)), none] [] (dh_s h 20 x1.toNatClampNeg (-2 : Int32)) Q)) : dh_J G mX9_deedByDraws 51 [some (.ref 0), some (.int (x1)), some (.int (x2)), none] [.int (s0)] h Q := by
  refine a_iconst dX9_deedByDraws_51 (v := (-1 : Int32)) (by decide) ?_
  refine a_icmp_eq 122 dX9_deedByDraws_52 (by decide) (fun c1 => ?_) (fun c1 => ?_)
  · replace k := k.1 c1
    refine dh_drop 1 ?_
    exact k
  · replace k := k.2 c1
    refine a_aload_n dX9_deedByDraws_55 rfl ?_
    refine a_getR dX9_deedByDraws_56 fF_RX9_31 rfl rfl ?_
    refine a_getR dX9_deedByDraws_59 fF_RX9_222 rfl rfl ?_
    refine a_iload_n dX9_deedByDraws_62 rfl ?_
    refine a_bipush dX9_deedByDraws_63 (v := (-2 : Int32)) (by decide) ?_
    obtain ⟨e2, k⟩ := k
    refine a_iast dX9_deedByDraws_65 rfl e2 ?_
    refine a_goto 122 dX9_deedByDraws_66 (by decide) ?_
    refine dh_drop 1 ?_
    exact k
set_option maxRecDepth 100000 in
theorem w_X9_deedByDraws_110 {G : dh_G} {x1 x2 s0 : Int32} {h : dh_H} {Q : Option Value → dh_H → Prop} (k : ((s0 = 0) → dh_J G mX9_deedByDraws 122 [some (.ref 0), none, some (.int (x2)), none] [] h Q) ∧ ((¬ s0 = 0) → dh_C G mX8_hand [.ref 19, .int (x1), .int (x2)] h (fun v h1 => dh_J G mX9_deedByDraws 122 [some (.ref 0), none, some (.int (x2)), none] (v.toList ++ []) h1 Q))) : dh_J G mX9_deedByDraws 110 [some (.ref 0), some (.int (x1)), some (.int (x2)), none] [.int (s0)] h Q := by
  refine a_if_eq 122 dX9_deedByDraws_110 (by decide) (fun c1 => ?_) (fun c1 => ?_)
  · replace k := k.1 c1
    refine dh_drop 1 ?_
    exact k
  · replace k := k.2 c1
    refine a_aload_n dX9_deedByDraws_113 rfl ?_
    refine a_getR dX9_deedByDraws_114 fF_RX9_31 rfl rfl ?_
    refine a_iload_n dX9_deedByDraws_117 rfl ?_
    refine a_iload_n dX9_deedByDraws_118 rfl ?_
    refine dh_drop 1 ?_
    exact a_callV2 dX9_deedByDraws_119 (dh_Y_up cY_RX9_215 (by decide)) rfl rfl (Nat.le_of_ble_eq_true rfl) k
set_option maxRecDepth 100000 in
theorem w_X9_deedByDraws_122 {G : dh_G} {x2 : Int32} {h : dh_H} {Q : Option Value → dh_H → Prop} (k : dh_C G mX1_draw [.ref 54, .int (nI 100)] h (fun v h1 => dh_J G mX9_deedByDraws 131 [some (.ref 0), none, some (.int (x2)), none] (v.toList ++ []) h1 Q)) : dh_J G mX9_deedByDraws 122 [some (.ref 0), none, some (.int (x2)), none] [] h Q := by
  refine a_aload_n dX9_deedByDraws_122 rfl ?_
  refine a_getR dX9_deedByDraws_123 fF_RX9_66 rfl rfl ?_
  refine a_bipush dX9_deedByDraws_126 (v := nI 100) (by decide) ?_
  exact a_callV1 dX9_deedByDraws_128 (dh_Y_up cY_RX9_291 (by decide)) rfl rfl (Nat.le_of_ble_eq_true rfl) k
set_option maxRecDepth 100000 in
theorem w_X9_deedByDraws_131 {G : dh_G} {x2 s0 : Int32} {h : dh_H} {Q : Option Value → dh_H → Prop} (k : (((h 3 2) ≤ s0) → Q none h) ∧ ((¬ (h 3 2) ≤ s0) → (vp_in x2 6) ∧ Q none (dh_s h 23 x2.toNatClampNeg (h 3 1)))) : dh_J G mX9_deedByDraws 131 [some (.ref 0), none, some (.int (x2)), none] [.int (s0)] h Q := by
  refine a_aload_n dX9_deedByDraws_131 rfl ?_
  refine a_getR dX9_deedByDraws_132 fF_RX9_19 rfl rfl ?_
  refine a_getI dX9_deedByDraws_135 fF_RX9_126 rfl rfl ?_
  refine a_icmp_ge 157 dX9_deedByDraws_138 (by decide) (fun c1 => ?_) (fun c1 => ?_)
  · replace k := k.1 c1
    exact a_vret dX9_deedByDraws_157 rfl k
  · replace k := k.2 c1
    refine a_aload_n dX9_deedByDraws_141 rfl ?_
    refine a_getR dX9_deedByDraws_142 fF_RX9_31 rfl rfl ?_
    refine a_getR dX9_deedByDraws_145 fF_RX9_167 rfl rfl ?_
    refine a_iload_n dX9_deedByDraws_148 rfl ?_
    refine a_aload_n dX9_deedByDraws_149 rfl ?_
    refine a_getR dX9_deedByDraws_150 fF_RX9_19 rfl rfl ?_
    refine a_getI dX9_deedByDraws_153 fF_RX9_123 rfl rfl ?_
    obtain ⟨e2, k⟩ := k
    refine a_iast dX9_deedByDraws_156 rfl e2 ?_
    exact a_vret dX9_deedByDraws_157 rfl k
set_option maxRecDepth 100000 in
theorem w_X9_percentOf_0 {G : dh_G} {x0 x1 : Int32} {h : dh_H} {Q : Option Value → dh_H → Prop} (k : (¬ (100 : Int64) = 0) ∧ Q (some (.int (((x0.toInt64 * x1.toInt64) / (100 : Int64)).toInt32))) h) : dh_J G mX9_percentOf 0 [some (.int (x0)), some (.int (x1))] [] h Q := by
  refine a_iload_n dX9_percentOf_0 rfl ?_
  refine a_i2l dX9_percentOf_1 ?_
  refine a_iload_n dX9_percentOf_2 rfl ?_
  refine a_i2l dX9_percentOf_3 ?_
  refine a_lmul dX9_percentOf_4 ?_
  refine a_ldc2 dX9_percentOf_5 (v := 100) kKL_RX9_294 ?_
  obtain ⟨e1, k⟩ := k
  refine a_ldiv dX9_percentOf_8 e1 ?_
  refine a_l2i dX9_percentOf_9 ?_
  exact a_iret dX9_percentOf_10 rfl k
theorem e_X9_percentOf {G : dh_G} {x0 x1 : Int32} {h : dh_H} {Q : Option Value → dh_H → Prop} (k : (¬ (100 : Int64) = 0) ∧ Q (some (.int (((x0.toInt64 * x1.toInt64) / (100 : Int64)).toInt32))) h) : dh_C G mX9_percentOf [.int (x0), .int (x1)] h Q := dh_C_of [some (.int (x0)), some (.int (x1))] (by decide) (Nat.le_of_ble_eq_true rfl) rfl (w_X9_percentOf_0 k)
