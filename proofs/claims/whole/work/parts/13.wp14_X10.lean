set_option maxRecDepth 100000 in
theorem w_X10_trial_0 {G : dh_G} {x1 x2 x3 : Int32} {h : dh_H} {Q : Option Value → dh_H → Prop} (k : dh_C G mX10_isChild [.ref 61, .int (x1)] h (fun v h1 => dh_J G mX10_trial 5 [some (.ref 61), some (.int (x1)), some (.int (x2)), some (.int (x3))] (v.toList ++ []) h1 Q)) : dh_J G mX10_trial 0 [some (.ref 61), some (.int (x1)), some (.int (x2)), some (.int (x3))] [] h Q := by
  refine a_aload_n dX10_trial_0 rfl ?_
  refine a_iload_n dX10_trial_1 rfl ?_
  exact a_callV1 dX10_trial_2 (dh_Y_up cY_RX10_189 (by decide)) rfl rfl (Nat.le_of_ble_eq_true rfl) k
theorem e_X10_trial {G : dh_G} {x1 x2 x3 : Int32} {h : dh_H} {Q : Option Value → dh_H → Prop} (k : dh_C G mX10_isChild [.ref 61, .int (x1)] h (fun v h1 => dh_J G mX10_trial 5 [some (.ref 61), some (.int (x1)), some (.int (x2)), some (.int (x3))] (v.toList ++ []) h1 Q)) : dh_C G mX10_trial [.ref 61, .int (x1), .int (x2), .int (x3)] h Q := dh_C_of [some (.ref 61), some (.int (x1)), some (.int (x2)), some (.int (x3))] (by decide) (Nat.le_of_ble_eq_true rfl) rfl (w_X10_trial_0 k)
set_option maxRecDepth 100000 in
theorem w_X10_trial_5 {G : dh_G} {x1 x2 x3 s0 : Int32} {h : dh_H} {Q : Option Value → dh_H → Prop} (k : ((s0 = 0) → Q (some (.int ((-1000000001 : Int32)))) h) ∧ ((¬ s0 = 0) → dh_C G mX10_isDummy [.ref 61, .int (x2)] h (fun v h1 => dh_J G mX10_trial 13 [some (.ref 61), some (.int (x1)), some (.int (x2)), some (.int (x3))] (v.toList ++ []) h1 Q))) : dh_J G mX10_trial 5 [some (.ref 61), some (.int (x1)), some (.int (x2)), some (.int (x3))] [.int (s0)] h Q := by
  refine a_if_eq 16 dX10_trial_5 (by decide) (fun c1 => ?_) (fun c1 => ?_)
  · replace k := k.1 c1
    refine a_ldc dX10_trial_16 (v := (-1000000001 : Int32)) kK_RX10_192 ?_
    exact a_iret dX10_trial_18 rfl k
  · replace k := k.2 c1
    refine a_aload_n dX10_trial_8 rfl ?_
    refine a_iload_n dX10_trial_9 rfl ?_
    exact a_callV1 dX10_trial_10 (dh_Y_up cY_RX10_193 (by decide)) rfl rfl (Nat.le_of_ble_eq_true rfl) k
set_option maxRecDepth 100000 in
theorem w_X10_trial_13 {G : dh_G} {x1 x2 x3 s0 : Int32} {h : dh_H} {Q : Option Value → dh_H → Prop} (k : ((¬ s0 = 0) → ((¬ (h 61 31) = (nI 8)) → (vp_in ((nI 3) * (h 61 31)) 24) ∧ (vp_in (((nI 3) * (h 61 31)) + (nI 1)) 24) ∧ ((x3 = 0) → (vp_in (((nI 3) * (h 61 31)) + (nI 2)) 24) ∧ Q (some (.int ((h 61 31) + (nI 1)))) (dh_s (dh_s (dh_s (dh_s h 73 ((nI 3) * (h 61 31)).toNatClampNeg x1) 73 (((nI 3) * (h 61 31)) + (nI 1)).toNatClampNeg x2) 73 (((nI 3) * (h 61 31)) + (nI 2)).toNatClampNeg (nI 0)) 61 31 ((h 61 31) + (nI 1)))) ∧ ((¬ x3 = 0) → (vp_in (((nI 3) * (h 61 31)) + (nI 2)) 24) ∧ Q (some (.int ((h 61 31) + (nI 1)))) (dh_s (dh_s (dh_s (dh_s h 73 ((nI 3) * (h 61 31)).toNatClampNeg x1) 73 (((nI 3) * (h 61 31)) + (nI 1)).toNatClampNeg x2) 73 (((nI 3) * (h 61 31)) + (nI 2)).toNatClampNeg (nI 1)) 61 31 ((h 61 31) + (nI 1))))) ∧ (((h 61 31) = (nI 8)) → Q (some (.int ((-1000000004 : Int32)))) h)) ∧ ((s0 = 0) → Q (some (.int ((-1000000001 : Int32)))) h)) : dh_J G mX10_trial 13 [some (.ref 61), some (.int (x1)), some (.int (x2)), some (.int (x3))] [.int (s0)] h Q := by
  refine a_if_ne 19 dX10_trial_13 (by decide) (fun c1 => ?_) (fun c1 => ?_)
  · replace k := k.1 c1
    refine a_aload_n dX10_trial_19 rfl ?_
    refine a_getI dX10_trial_20 fF_RX10_161 rfl rfl ?_
    refine a_bipush dX10_trial_23 (v := nI 8) (by decide) ?_
    refine a_icmp_ne 31 dX10_trial_25 (by decide) (fun c2 => ?_) (fun c2 => ?_)
    · replace k := k.1 c2
      refine a_aload_n dX10_trial_31 rfl ?_
      refine a_getR dX10_trial_32 fF_RX10_48 rfl rfl ?_
      refine a_iconst dX10_trial_35 (v := nI 3) (by decide) ?_
      refine a_aload_n dX10_trial_36 rfl ?_
      refine a_getI dX10_trial_37 fF_RX10_161 rfl rfl ?_
      refine a_imul dX10_trial_40 ?_
      refine a_iload_n dX10_trial_41 rfl ?_
      obtain ⟨e3, k⟩ := k
      refine a_iast dX10_trial_42 rfl e3 ?_
      refine a_aload_n dX10_trial_43 rfl ?_
      refine a_getR dX10_trial_44 fF_RX10_48 rfl rfl ?_
      refine a_iconst dX10_trial_47 (v := nI 3) (by decide) ?_
      refine a_aload_n dX10_trial_48 rfl ?_
      refine a_getI dX10_trial_49 fF_RX10_161 rfl rfl ?_
      refine a_imul dX10_trial_52 ?_
      refine a_iconst dX10_trial_53 (v := nI 1) (by decide) ?_
      refine a_iadd dX10_trial_54 ?_
      refine a_iload_n dX10_trial_55 rfl ?_
      obtain ⟨e4, k⟩ := k
      refine a_iast dX10_trial_56 rfl e4 ?_
      refine a_aload_n dX10_trial_57 rfl ?_
      refine a_getR dX10_trial_58 fF_RX10_48 rfl rfl ?_
      refine a_iconst dX10_trial_61 (v := nI 3) (by decide) ?_
      refine a_aload_n dX10_trial_62 rfl ?_
      refine a_getI dX10_trial_63 fF_RX10_161 rfl rfl ?_
      refine a_imul dX10_trial_66 ?_
      refine a_iconst dX10_trial_67 (v := nI 2) (by decide) ?_
      refine a_iadd dX10_trial_68 ?_
      refine a_iload_n dX10_trial_69 rfl ?_
      refine a_if_eq 77 dX10_trial_70 (by decide) (fun c5 => ?_) (fun c5 => ?_)
      · replace k := k.1 c5
        refine a_iconst dX10_trial_77 (v := nI 0) (by decide) ?_
        obtain ⟨e6, k⟩ := k
        refine a_iast dX10_trial_78 rfl e6 ?_
        refine a_aload_n dX10_trial_79 rfl ?_
        refine a_dup dX10_trial_80 rfl ?_
        refine a_getI dX10_trial_81 fF_RX10_161 rfl rfl ?_
        refine a_iconst dX10_trial_84 (v := nI 1) (by decide) ?_
        refine a_iadd dX10_trial_85 ?_
        refine a_put dX10_trial_86 fF_RX10_161 rfl rfl rfl rfl ?_
        refine a_aload_n dX10_trial_89 rfl ?_
        refine a_getI dX10_trial_90 fF_RX10_161 rfl rfl ?_
        exact a_iret dX10_trial_93 rfl k
      · replace k := k.2 c5
        refine a_iconst dX10_trial_73 (v := nI 1) (by decide) ?_
        refine a_goto 78 dX10_trial_74 (by decide) ?_
        obtain ⟨e7, k⟩ := k
        refine a_iast dX10_trial_78 rfl e7 ?_
        refine a_aload_n dX10_trial_79 rfl ?_
        refine a_dup dX10_trial_80 rfl ?_
        refine a_getI dX10_trial_81 fF_RX10_161 rfl rfl ?_
        refine a_iconst dX10_trial_84 (v := nI 1) (by decide) ?_
        refine a_iadd dX10_trial_85 ?_
        refine a_put dX10_trial_86 fF_RX10_161 rfl rfl rfl rfl ?_
        refine a_aload_n dX10_trial_89 rfl ?_
        refine a_getI dX10_trial_90 fF_RX10_161 rfl rfl ?_
        exact a_iret dX10_trial_93 rfl k
    · replace k := k.2 c2
      refine a_ldc dX10_trial_28 (v := (-1000000004 : Int32)) kK_RX10_80 ?_
      exact a_iret dX10_trial_30 rfl k
  · replace k := k.2 c1
    refine a_ldc dX10_trial_16 (v := (-1000000001 : Int32)) kK_RX10_192 ?_
    exact a_iret dX10_trial_18 rfl k
set_option maxRecDepth 100000 in
theorem w_X10_ownings_0 {G : dh_G} {h : dh_H} {Q : Option Value → dh_H → Prop} (k : dh_J G mX10_ownings 4 [some (.ref 61), some (.int (nI 1)), some (.int (nI 0))] [] h Q) : dh_J G mX10_ownings 0 [some (.ref 61), none, none] [] h Q := by
  refine a_iconst dX10_ownings_0 (v := nI 1) (by decide) ?_
  refine a_istore_n dX10_ownings_1 (by decide) rfl ?_
  refine a_iconst dX10_ownings_2 (v := nI 0) (by decide) ?_
  refine a_istore_n dX10_ownings_3 (by decide) rfl ?_
  exact k
theorem e_X10_ownings {G : dh_G} {h : dh_H} {Q : Option Value → dh_H → Prop} (k : dh_J G mX10_ownings 4 [some (.ref 61), some (.int (nI 1)), some (.int (nI 0))] [] h Q) : dh_C G mX10_ownings [.ref 61] h Q := dh_C_of [some (.ref 61), none, none] (by decide) (Nat.le_of_ble_eq_true rfl) rfl (w_X10_ownings_0 k)
set_option maxRecDepth 100000 in
theorem w_X10_ownings_4 {G : dh_G} {x1 x2 : Int32} {h : dh_H} {Q : Option Value → dh_H → Prop} (k : (((h 61 19) ≤ x2) → Q (some (.int (x1))) h) ∧ ((¬ (h 61 19) ≤ x2) → dh_J G mX10_ownings 4 [some (.ref 61), some (.int (x1 * (h 61 20))), some (.int (x2 + (nI 1)))] [] h Q)) : dh_J G mX10_ownings 4 [some (.ref 61), some (.int (x1)), some (.int (x2))] [] h Q := by
  refine a_iload_n dX10_ownings_4 rfl ?_
  refine a_aload_n dX10_ownings_5 rfl ?_
  refine a_getI dX10_ownings_6 fF_RX10_66 rfl rfl ?_
  refine a_icmp_ge 25 dX10_ownings_9 (by decide) (fun c1 => ?_) (fun c1 => ?_)
  · replace k := k.1 c1
    refine a_iload_n dX10_ownings_25 rfl ?_
    exact a_iret dX10_ownings_26 rfl k
  · replace k := k.2 c1
    refine a_iload_n dX10_ownings_12 rfl ?_
    refine a_aload_n dX10_ownings_13 rfl ?_
    refine a_getI dX10_ownings_14 fF_RX10_73 rfl rfl ?_
    refine a_imul dX10_ownings_17 ?_
    refine a_istore_n dX10_ownings_18 (by decide) rfl ?_
    refine a_iinc dX10_ownings_19 (v := x2 + (nI 1)) rfl (by rfl) (by decide) rfl ?_
    refine a_goto 4 dX10_ownings_22 (by decide) ?_
    exact k
set_option maxRecDepth 100000 in
theorem w_X10_layOwning_0 {G : dh_G} {x1 : Int32} {h : dh_H} {Q : Option Value → dh_H → Prop} (k : dh_J G mX10_layOwning 15 [some (.ref 61), none, some (.int (x1)), some (.int (nI 0)), some (.int (nI 1)), some (.int ((h 61 19) - (nI 1)))] [] h Q) : dh_J G mX10_layOwning 0 [some (.ref 61), some (.int (x1)), none, none, none, none] [] h Q := by
  refine a_iload_n dX10_layOwning_0 rfl ?_
  refine a_istore_n dX10_layOwning_1 (by decide) rfl ?_
  refine a_iconst dX10_layOwning_2 (v := nI 0) (by decide) ?_
  refine a_istore_n dX10_layOwning_3 (by decide) rfl ?_
  refine a_iconst dX10_layOwning_4 (v := nI 1) (by decide) ?_
  refine a_istore dX10_layOwning_5 (by decide) rfl ?_
  refine a_aload_n dX10_layOwning_7 rfl ?_
  refine a_getI dX10_layOwning_8 fF_RX10_66 rfl rfl ?_
  refine a_iconst dX10_layOwning_11 (v := nI 1) (by decide) ?_
  refine a_isub dX10_layOwning_12 ?_
  refine a_istore dX10_layOwning_13 (by decide) rfl ?_
  refine dh_drop 1 ?_
  exact k
theorem e_X10_layOwning {G : dh_G} {x1 : Int32} {h : dh_H} {Q : Option Value → dh_H → Prop} (k : dh_J G mX10_layOwning 15 [some (.ref 61), none, some (.int (x1)), some (.int (nI 0)), some (.int (nI 1)), some (.int ((h 61 19) - (nI 1)))] [] h Q) : dh_C G mX10_layOwning [.ref 61, .int (x1)] h Q := dh_C_of [some (.ref 61), some (.int (x1)), none, none, none, none] (by decide) (Nat.le_of_ble_eq_true rfl) rfl (w_X10_layOwning_0 k)
set_option maxRecDepth 100000 in
theorem w_X10_layOwning_15 {G : dh_G} {x2 x3 x4 x5 : Int32} {h : dh_H} {Q : Option Value → dh_H → Prop} (k : ((x5 < 0) → dh_J G mX10_layOwning 87 [some (.ref 61), none, none, none, some (.int (x4)), some (.int (nI 0))] [] h Q) ∧ ((¬ x5 < 0) → (¬ h 61 20 = 0) ∧ (vp_in x5 6) ∧ (¬ h 61 20 = 0) ∧ ((x4 = 0) → (vp_in x5 6) ∧ dh_J G mX10_layOwning 15 [some (.ref 61), none, some (.int (x2 / (h 61 20))), some (.int (x3 ||| ((nI 1) <<< (((dh_s h 75 x5.toNatClampNeg (x2 - x2 / (h 61 20) * (h 61 20))) 75 x5.toNatClampNeg) &&& 31)))), some (.int (nI 0)), some (.int (x5 + (-1 : Int32)))] [] (dh_s h 75 x5.toNatClampNeg (x2 - x2 / (h 61 20) * (h 61 20))) Q) ∧ ((¬ x4 = 0) → (vp_in x5 6) ∧ dh_C G mX10_has [.int (x3), .int ((dh_s h 75 x5.toNatClampNeg (x2 - x2 / (h 61 20) * (h 61 20))) 75 x5.toNatClampNeg)] (dh_s h 75 x5.toNatClampNeg (x2 - x2 / (h 61 20) * (h 61 20))) (fun v h1 => dh_J G mX10_layOwning 56 [some (.ref 61), none, some (.int (x2 / (h 61 20))), some (.int (x3)), none, some (.int (x5))] (v.toList ++ []) h1 Q)))) : dh_J G mX10_layOwning 15 [some (.ref 61), none, some (.int (x2)), some (.int (x3)), some (.int (x4)), some (.int (x5))] [] h Q := by
  refine a_iload dX10_layOwning_15 rfl ?_
  refine a_if_lt 84 dX10_layOwning_17 (by decide) (fun c1 => ?_) (fun c1 => ?_)
  · replace k := k.1 c1
    refine a_iconst dX10_layOwning_84 (v := nI 0) (by decide) ?_
    refine a_istore dX10_layOwning_85 (by decide) rfl ?_
    refine dh_drop 2 ?_
    refine dh_drop 3 ?_
    exact k
  · replace k := k.2 c1
    refine a_aload_n dX10_layOwning_20 rfl ?_
    refine a_getR dX10_layOwning_21 fF_RX10_54 rfl rfl ?_
    refine a_iload dX10_layOwning_24 rfl ?_
    refine a_iload_n dX10_layOwning_26 rfl ?_
    refine a_aload_n dX10_layOwning_27 rfl ?_
    refine a_getI dX10_layOwning_28 fF_RX10_73 rfl rfl ?_
    obtain ⟨e2, k⟩ := k
    refine a_irem dX10_layOwning_31 e2 ?_
    obtain ⟨e3, k⟩ := k
    refine a_iast dX10_layOwning_32 rfl e3 ?_
    refine a_iload_n dX10_layOwning_33 rfl ?_
    refine a_aload_n dX10_layOwning_34 rfl ?_
    refine a_getI dX10_layOwning_35 fF_RX10_73 rfl rfl ?_
    obtain ⟨e4, k⟩ := k
    refine a_idiv dX10_layOwning_38 e4 ?_
    refine a_istore_n dX10_layOwning_39 (by decide) rfl ?_
    refine a_iload dX10_layOwning_40 rfl ?_
    refine a_if_eq 63 dX10_layOwning_42 (by decide) (fun c5 => ?_) (fun c5 => ?_)
    · replace k := k.1 c5
      refine a_iconst dX10_layOwning_63 (v := nI 0) (by decide) ?_
      refine a_istore dX10_layOwning_64 (by decide) rfl ?_
      refine a_iload_n dX10_layOwning_66 rfl ?_
      refine a_iconst dX10_layOwning_67 (v := nI 1) (by decide) ?_
      refine a_aload_n dX10_layOwning_68 rfl ?_
      refine a_getR dX10_layOwning_69 fF_RX10_54 rfl rfl ?_
      refine a_iload dX10_layOwning_72 rfl ?_
      obtain ⟨e6, k⟩ := k
      refine a_iald dX10_layOwning_74 rfl e6 ?_
      refine a_ishl dX10_layOwning_75 ?_
      refine a_ior dX10_layOwning_76 ?_
      refine a_istore_n dX10_layOwning_77 (by decide) rfl ?_
      refine a_iinc dX10_layOwning_78 (v := x5 + (-1 : Int32)) rfl (by rfl) (by decide) rfl ?_
      refine a_goto 15 dX10_layOwning_81 (by decide) ?_
      exact k
    · replace k := k.2 c5
      refine a_iload_n dX10_layOwning_45 rfl ?_
      refine a_aload_n dX10_layOwning_46 rfl ?_
      refine a_getR dX10_layOwning_47 fF_RX10_54 rfl rfl ?_
      refine a_iload dX10_layOwning_50 rfl ?_
      obtain ⟨e7, k⟩ := k
      refine a_iald dX10_layOwning_52 rfl e7 ?_
      refine dh_drop 4 ?_
      exact a_callS2 dX10_layOwning_53 (dh_Y_up cY_RX10_200 (by decide)) (Nat.le_of_ble_eq_true rfl) k
set_option maxRecDepth 100000 in
theorem w_X10_layOwning_56 {G : dh_G} {x2 x3 x5 s0 : Int32} {h : dh_H} {Q : Option Value → dh_H → Prop} (k : ((¬ s0 = 0) → (vp_in x5 6) ∧ dh_J G mX10_layOwning 15 [some (.ref 61), none, some (.int (x2)), some (.int (x3 ||| ((nI 1) <<< ((h 75 x5.toNatClampNeg) &&& 31)))), some (.int (nI 0)), some (.int (x5 + (-1 : Int32)))] [] h Q) ∧ ((s0 = 0) → (vp_in x5 6) ∧ dh_J G mX10_layOwning 15 [some (.ref 61), none, some (.int (x2)), some (.int (x3 ||| ((nI 1) <<< ((h 75 x5.toNatClampNeg) &&& 31)))), some (.int (nI 1)), some (.int (x5 + (-1 : Int32)))] [] h Q)) : dh_J G mX10_layOwning 56 [some (.ref 61), none, some (.int (x2)), some (.int (x3)), none, some (.int (x5))] [.int (s0)] h Q := by
  refine a_if_ne 63 dX10_layOwning_56 (by decide) (fun c1 => ?_) (fun c1 => ?_)
  · replace k := k.1 c1
    refine a_iconst dX10_layOwning_63 (v := nI 0) (by decide) ?_
    refine a_istore dX10_layOwning_64 (by decide) rfl ?_
    refine a_iload_n dX10_layOwning_66 rfl ?_
    refine a_iconst dX10_layOwning_67 (v := nI 1) (by decide) ?_
    refine a_aload_n dX10_layOwning_68 rfl ?_
    refine a_getR dX10_layOwning_69 fF_RX10_54 rfl rfl ?_
    refine a_iload dX10_layOwning_72 rfl ?_
    obtain ⟨e2, k⟩ := k
    refine a_iald dX10_layOwning_74 rfl e2 ?_
    refine a_ishl dX10_layOwning_75 ?_
    refine a_ior dX10_layOwning_76 ?_
    refine a_istore_n dX10_layOwning_77 (by decide) rfl ?_
    refine a_iinc dX10_layOwning_78 (v := x5 + (-1 : Int32)) rfl (by rfl) (by decide) rfl ?_
    refine a_goto 15 dX10_layOwning_81 (by decide) ?_
    exact k
  · replace k := k.2 c1
    refine a_iconst dX10_layOwning_59 (v := nI 1) (by decide) ?_
    refine a_goto 64 dX10_layOwning_60 (by decide) ?_
    refine a_istore dX10_layOwning_64 (by decide) rfl ?_
    refine a_iload_n dX10_layOwning_66 rfl ?_
    refine a_iconst dX10_layOwning_67 (v := nI 1) (by decide) ?_
    refine a_aload_n dX10_layOwning_68 rfl ?_
    refine a_getR dX10_layOwning_69 fF_RX10_54 rfl rfl ?_
    refine a_iload dX10_layOwning_72 rfl ?_
    obtain ⟨e3, k⟩ := k
    refine a_iald dX10_layOwning_74 rfl e3 ?_
    refine a_ishl dX10_layOwning_75 ?_
    refine a_ior dX10_layOwning_76 ?_
    refine a_istore_n dX10_layOwning_77 (by decide) rfl ?_
    refine a_iinc dX10_layOwning_78 (v := x5 + (-1 : Int32)) rfl (by rfl) (by decide) rfl ?_
    refine a_goto 15 dX10_layOwning_81 (by decide) ?_
    exact k
set_option maxRecDepth 100000 in
theorem w_X10_layOwning_87 {G : dh_G} {x4 x5 : Int32} {h : dh_H} {Q : Option Value → dh_H → Prop} (k : (((h 61 31) ≤ x5) → ((x4) = 0 ∨ (x4) = 1) ∧ Q (some (.int (x4))) h) ∧ ((¬ (h 61 31) ≤ x5) → ((x4 = 0) → ((x4) = 0 ∨ (x4) = 1) ∧ Q (some (.int (x4))) h) ∧ ((¬ x4 = 0) → (vp_in ((nI 3) * x5) 24) ∧ (vp_in (((nI 3) * x5) + (nI 1)) 24) ∧ (vp_in ((nI 3) * x5) 24) ∧ (vp_in (h 73 ((nI 3) * x5).toNatClampNeg) 6) ∧ dh_C G mX10_takesBy [.ref 61, .int (h 73 ((nI 3) * x5).toNatClampNeg), .int (h 73 (((nI 3) * x5) + (nI 1)).toNatClampNeg), .int (h 75 (h 73 ((nI 3) * x5).toNatClampNeg).toNatClampNeg)] h (fun v h1 => dh_J G mX10_layOwning 139 [some (.ref 61), none, none, none, none, some (.int (x5))] (v.toList ++ []) h1 Q)))) : dh_J G mX10_layOwning 87 [some (.ref 61), none, none, none, some (.int (x4)), some (.int (x5))] [] h Q := by
  refine a_iload dX10_layOwning_87 rfl ?_
  refine a_aload_n dX10_layOwning_89 rfl ?_
  refine a_getI dX10_layOwning_90 fF_RX10_161 rfl rfl ?_
  refine a_icmp_ge 175 dX10_layOwning_93 (by decide) (fun c1 => ?_) (fun c1 => ?_)
  · replace k := k.1 c1
    refine a_iload dX10_layOwning_175 rfl ?_
    obtain ⟨e2, k⟩ := k
    exact a_zret dX10_layOwning_177 rfl (dh_b1 e2) k
  · replace k := k.2 c1
    refine a_iload dX10_layOwning_96 rfl ?_
    refine a_if_eq 175 dX10_layOwning_98 (by decide) (fun c3 => ?_) (fun c3 => ?_)
    · replace k := k.1 c3
      refine a_iload dX10_layOwning_175 rfl ?_
      obtain ⟨e4, k⟩ := k
      exact a_zret dX10_layOwning_177 rfl (dh_b1 e4) k
    · replace k := k.2 c3
      refine a_aload_n dX10_layOwning_101 rfl ?_
      refine a_aload_n dX10_layOwning_102 rfl ?_
      refine a_getR dX10_layOwning_103 fF_RX10_48 rfl rfl ?_
      refine a_iconst dX10_layOwning_106 (v := nI 3) (by decide) ?_
      refine a_iload dX10_layOwning_107 rfl ?_
      refine a_imul dX10_layOwning_109 ?_
      obtain ⟨e5, k⟩ := k
      refine a_iald dX10_layOwning_110 rfl e5 ?_
      refine a_aload_n dX10_layOwning_111 rfl ?_
      refine a_getR dX10_layOwning_112 fF_RX10_48 rfl rfl ?_
      refine a_iconst dX10_layOwning_115 (v := nI 3) (by decide) ?_
      refine a_iload dX10_layOwning_116 rfl ?_
      refine a_imul dX10_layOwning_118 ?_
      refine a_iconst dX10_layOwning_119 (v := nI 1) (by decide) ?_
      refine a_iadd dX10_layOwning_120 ?_
      obtain ⟨e6, k⟩ := k
      refine a_iald dX10_layOwning_121 rfl e6 ?_
      refine a_aload_n dX10_layOwning_122 rfl ?_
      refine a_getR dX10_layOwning_123 fF_RX10_54 rfl rfl ?_
      refine a_aload_n dX10_layOwning_126 rfl ?_
      refine a_getR dX10_layOwning_127 fF_RX10_48 rfl rfl ?_
      refine a_iconst dX10_layOwning_130 (v := nI 3) (by decide) ?_
      refine a_iload dX10_layOwning_131 rfl ?_
      refine a_imul dX10_layOwning_133 ?_
      obtain ⟨e7, k⟩ := k
      refine a_iald dX10_layOwning_134 rfl e7 ?_
      obtain ⟨e8, k⟩ := k
      refine a_iald dX10_layOwning_135 rfl e8 ?_
      refine dh_drop 4 ?_
      exact a_callV3 dX10_layOwning_136 (dh_Y_up cY_RX10_170 (by decide)) rfl rfl (Nat.le_of_ble_eq_true rfl) k
set_option maxRecDepth 100000 in
theorem w_X10_layOwning_139 {G : dh_G} {x5 s0 : Int32} {h : dh_H} {Q : Option Value → dh_H → Prop} (k : (vp_in (((nI 3) * x5) + (nI 2)) 24) ∧ ((¬ (h 73 (((nI 3) * x5) + (nI 2)).toNatClampNeg) = (nI 1)) → ((¬ s0 = (nI 0)) → dh_J G mX10_layOwning 87 [some (.ref 61), none, none, none, some (.int (nI 0)), some (.int (x5 + (nI 1)))] [] h Q) ∧ ((s0 = (nI 0)) → dh_J G mX10_layOwning 87 [some (.ref 61), none, none, none, some (.int (nI 1)), some (.int (x5 + (nI 1)))] [] h Q)) ∧ (((h 73 (((nI 3) * x5) + (nI 2)).toNatClampNeg) = (nI 1)) → ((¬ s0 = (nI 1)) → dh_J G mX10_layOwning 87 [some (.ref 61), none, none, none, some (.int (nI 0)), some (.int (x5 + (nI 1)))] [] h Q) ∧ ((s0 = (nI 1)) → dh_J G mX10_layOwning 87 [some (.ref 61), none, none, none, some (.int (nI 1)), some (.int (x5 + (nI 1)))] [] h Q))) : dh_J G mX10_layOwning 139 [some (.ref 61), none, none, none, none, some (.int (x5))] [.int (s0)] h Q := by
  refine a_aload_n dX10_layOwning_139 rfl ?_
  refine a_getR dX10_layOwning_140 fF_RX10_48 rfl rfl ?_
  refine a_iconst dX10_layOwning_143 (v := nI 3) (by decide) ?_
  refine a_iload dX10_layOwning_144 rfl ?_
  refine a_imul dX10_layOwning_146 ?_
  refine a_iconst dX10_layOwning_147 (v := nI 2) (by decide) ?_
  refine a_iadd dX10_layOwning_148 ?_
  obtain ⟨e1, k⟩ := k
  refine a_iald dX10_layOwning_149 rfl e1 ?_
  refine a_iconst dX10_layOwning_150 (v := nI 1) (by decide) ?_
  refine a_icmp_ne 158 dX10_layOwning_151 (by decide) (fun c2 => ?_) (fun c2 => ?_)
  · replace k := k.1 c2
    refine a_iconst dX10_layOwning_158 (v := nI 0) (by decide) ?_
    refine a_icmp_ne 166 dX10_layOwning_159 (by decide) (fun c3 => ?_) (fun c3 => ?_)
    · replace k := k.1 c3
      refine a_iconst dX10_layOwning_166 (v := nI 0) (by decide) ?_
      refine a_istore dX10_layOwning_167 (by decide) rfl ?_
      refine a_iinc dX10_layOwning_169 (v := x5 + (nI 1)) rfl (by rfl) (by decide) rfl ?_
      refine a_goto 87 dX10_layOwning_172 (by decide) ?_
      exact k
    · replace k := k.2 c3
      refine a_iconst dX10_layOwning_162 (v := nI 1) (by decide) ?_
      refine a_goto 167 dX10_layOwning_163 (by decide) ?_
      refine a_istore dX10_layOwning_167 (by decide) rfl ?_
      refine a_iinc dX10_layOwning_169 (v := x5 + (nI 1)) rfl (by rfl) (by decide) rfl ?_
      refine a_goto 87 dX10_layOwning_172 (by decide) ?_
      exact k
  · replace k := k.2 c2
    refine a_iconst dX10_layOwning_154 (v := nI 1) (by decide) ?_
    refine a_goto 159 dX10_layOwning_155 (by decide) ?_
    refine a_icmp_ne 166 dX10_layOwning_159 (by decide) (fun c4 => ?_) (fun c4 => ?_)
    · replace k := k.1 c4
      refine a_iconst dX10_layOwning_166 (v := nI 0) (by decide) ?_
      refine a_istore dX10_layOwning_167 (by decide) rfl ?_
      refine a_iinc dX10_layOwning_169 (v := x5 + (nI 1)) rfl (by rfl) (by decide) rfl ?_
      refine a_goto 87 dX10_layOwning_172 (by decide) ?_
      exact k
    · replace k := k.2 c4
      refine a_iconst dX10_layOwning_162 (v := nI 1) (by decide) ?_
      refine a_goto 167 dX10_layOwning_163 (by decide) ?_
      refine a_istore dX10_layOwning_167 (by decide) rfl ?_
      refine a_iinc dX10_layOwning_169 (v := x5 + (nI 1)) rfl (by rfl) (by decide) rfl ?_
      refine a_goto 87 dX10_layOwning_172 (by decide) ?_
      exact k
set_option maxRecDepth 100000 in
theorem w_X10_whose_0 {G : dh_G} {x1 : Int32} {h : dh_H} {Q : Option Value → dh_H → Prop} (k : ((x1 = (-1 : Int32)) → (((h 61 19) ≤ (h 61 20)) → dh_J G mX10_whose 37 [some (.ref 61), some (.int (x1)), some (.int (nI 0)), some (.int ((-1 : Int32))), some (.int (nI 0)), none] [] h Q) ∧ ((¬ (h 61 19) ≤ (h 61 20)) → Q (some (.int ((-1000000003 : Int32)))) h)) ∧ ((¬ x1 = (-1 : Int32)) → dh_C G mX10_isChild [.ref 61, .int (x1)] h (fun v h1 => dh_J G mX10_whose 10 [some (.ref 61), some (.int (x1)), none, none, none, none] (v.toList ++ []) h1 Q))) : dh_J G mX10_whose 0 [some (.ref 61), some (.int (x1)), none, none, none, none] [] h Q := by
  refine a_iload_n dX10_whose_0 rfl ?_
  refine a_iconst dX10_whose_1 (v := (-1 : Int32)) (by decide) ?_
  refine a_icmp_eq 16 dX10_whose_2 (by decide) (fun c1 => ?_) (fun c1 => ?_)
  · replace k := k.1 c1
    refine a_aload_n dX10_whose_16 rfl ?_
    refine a_getI dX10_whose_17 fF_RX10_73 rfl rfl ?_
    refine a_aload_n dX10_whose_20 rfl ?_
    refine a_getI dX10_whose_21 fF_RX10_66 rfl rfl ?_
    refine a_icmp_ge 30 dX10_whose_24 (by decide) (fun c2 => ?_) (fun c2 => ?_)
    · replace k := k.1 c2
      refine a_iconst dX10_whose_30 (v := nI 0) (by decide) ?_
      refine a_istore_n dX10_whose_31 (by decide) rfl ?_
      refine a_iconst dX10_whose_32 (v := (-1 : Int32)) (by decide) ?_
      refine a_istore_n dX10_whose_33 (by decide) rfl ?_
      refine a_iconst dX10_whose_34 (v := nI 0) (by decide) ?_
      refine a_istore dX10_whose_35 (by decide) rfl ?_
      exact k
    · replace k := k.2 c2
      refine a_ldc dX10_whose_27 (v := (-1000000003 : Int32)) kK_RX10_203 ?_
      exact a_iret dX10_whose_29 rfl k
  · replace k := k.2 c1
    refine a_aload_n dX10_whose_5 rfl ?_
    refine a_iload_n dX10_whose_6 rfl ?_
    exact a_callV1 dX10_whose_7 (dh_Y_up cY_RX10_189 (by decide)) rfl rfl (Nat.le_of_ble_eq_true rfl) k
theorem e_X10_whose {G : dh_G} {x1 : Int32} {h : dh_H} {Q : Option Value → dh_H → Prop} (k : ((x1 = (-1 : Int32)) → (((h 61 19) ≤ (h 61 20)) → dh_J G mX10_whose 37 [some (.ref 61), some (.int (x1)), some (.int (nI 0)), some (.int ((-1 : Int32))), some (.int (nI 0)), none] [] h Q) ∧ ((¬ (h 61 19) ≤ (h 61 20)) → Q (some (.int ((-1000000003 : Int32)))) h)) ∧ ((¬ x1 = (-1 : Int32)) → dh_C G mX10_isChild [.ref 61, .int (x1)] h (fun v h1 => dh_J G mX10_whose 10 [some (.ref 61), some (.int (x1)), none, none, none, none] (v.toList ++ []) h1 Q))) : dh_C G mX10_whose [.ref 61, .int (x1)] h Q := dh_C_of [some (.ref 61), some (.int (x1)), none, none, none, none] (by decide) (Nat.le_of_ble_eq_true rfl) rfl (w_X10_whose_0 k)
set_option maxRecDepth 100000 in
theorem w_X10_whose_10 {G : dh_G} {x1 s0 : Int32} {h : dh_H} {Q : Option Value → dh_H → Prop} (k : ((¬ s0 = 0) → (((h 61 19) ≤ (h 61 20)) → dh_J G mX10_whose 37 [some (.ref 61), some (.int (x1)), some (.int (nI 0)), some (.int ((-1 : Int32))), some (.int (nI 0)), none] [] h Q) ∧ ((¬ (h 61 19) ≤ (h 61 20)) → Q (some (.int ((-1000000003 : Int32)))) h)) ∧ ((s0 = 0) → Q (some (.int ((-1000000001 : Int32)))) h)) : dh_J G mX10_whose 10 [some (.ref 61), some (.int (x1)), none, none, none, none] [.int (s0)] h Q := by
  refine a_if_ne 16 dX10_whose_10 (by decide) (fun c1 => ?_) (fun c1 => ?_)
  · replace k := k.1 c1
    refine a_aload_n dX10_whose_16 rfl ?_
    refine a_getI dX10_whose_17 fF_RX10_73 rfl rfl ?_
    refine a_aload_n dX10_whose_20 rfl ?_
    refine a_getI dX10_whose_21 fF_RX10_66 rfl rfl ?_
    refine a_icmp_ge 30 dX10_whose_24 (by decide) (fun c2 => ?_) (fun c2 => ?_)
    · replace k := k.1 c2
      refine a_iconst dX10_whose_30 (v := nI 0) (by decide) ?_
      refine a_istore_n dX10_whose_31 (by decide) rfl ?_
      refine a_iconst dX10_whose_32 (v := (-1 : Int32)) (by decide) ?_
      refine a_istore_n dX10_whose_33 (by decide) rfl ?_
      refine a_iconst dX10_whose_34 (v := nI 0) (by decide) ?_
      refine a_istore dX10_whose_35 (by decide) rfl ?_
      exact k
    · replace k := k.2 c2
      refine a_ldc dX10_whose_27 (v := (-1000000003 : Int32)) kK_RX10_203 ?_
      exact a_iret dX10_whose_29 rfl k
  · replace k := k.2 c1
    refine a_ldc dX10_whose_13 (v := (-1000000001 : Int32)) kK_RX10_192 ?_
    exact a_iret dX10_whose_15 rfl k
set_option maxRecDepth 100000 in
theorem w_X10_whose_37 {G : dh_G} {x1 x2 x3 x4 : Int32} {h : dh_H} {Q : Option Value → dh_H → Prop} (k : dh_C G mX10_ownings [.ref 61] h (fun v h1 => dh_J G mX10_whose 43 [some (.ref 61), some (.int (x1)), some (.int (x2)), some (.int (x3)), some (.int (x4)), none] (v.toList ++ [.int (x4)]) h1 Q)) : dh_J G mX10_whose 37 [some (.ref 61), some (.int (x1)), some (.int (x2)), some (.int (x3)), some (.int (x4)), none] [] h Q := by
  refine a_iload dX10_whose_37 rfl ?_
  refine a_aload_n dX10_whose_39 rfl ?_
  exact a_callV0 dX10_whose_40 (dh_Y_up cY_RX10_250 (by decide)) rfl rfl (Nat.le_of_ble_eq_true rfl) k
set_option maxRecDepth 100000 in
theorem w_X10_whose_43 {G : dh_G} {x1 x2 x3 x4 s0 s1 : Int32} {h : dh_H} {Q : Option Value → dh_H → Prop} (k : ((s1 ≤ s0) → ((¬ x1 = (-1 : Int32)) → ((¬ x3 = (-2 : Int32)) → Q (some (.int (x3))) h) ∧ ((x3 = (-2 : Int32)) → Q (some (.int ((-1 : Int32)))) h)) ∧ ((x1 = (-1 : Int32)) → Q (some (.int (x2))) h)) ∧ ((¬ s1 ≤ s0) → dh_C G mX10_layOwning [.ref 61, .int (x4)] h (fun v h1 => dh_J G mX10_whose 52 [some (.ref 61), some (.int (x1)), some (.int (x2)), some (.int (x3)), some (.int (x4)), none] (v.toList ++ []) h1 Q))) : dh_J G mX10_whose 43 [some (.ref 61), some (.int (x1)), some (.int (x2)), some (.int (x3)), some (.int (x4)), none] [.int (s1), .int (s0)] h Q := by
  refine a_icmp_ge 99 dX10_whose_43 (by decide) (fun c1 => ?_) (fun c1 => ?_)
  · replace k := k.1 c1
    refine a_iload_n dX10_whose_99 rfl ?_
    refine a_iconst dX10_whose_100 (v := (-1 : Int32)) (by decide) ?_
    refine a_icmp_ne 108 dX10_whose_101 (by decide) (fun c2 => ?_) (fun c2 => ?_)
    · replace k := k.1 c2
      refine a_iload_n dX10_whose_108 rfl ?_
      refine a_bipush dX10_whose_109 (v := (-2 : Int32)) (by decide) ?_
      refine a_icmp_ne 118 dX10_whose_111 (by decide) (fun c3 => ?_) (fun c3 => ?_)
      · replace k := k.1 c3
        refine a_iload_n dX10_whose_118 rfl ?_
        exact a_iret dX10_whose_119 rfl k
      · replace k := k.2 c3
        refine a_iconst dX10_whose_114 (v := (-1 : Int32)) (by decide) ?_
        refine a_goto 119 dX10_whose_115 (by decide) ?_
        exact a_iret dX10_whose_119 rfl k
    · replace k := k.2 c2
      refine a_iload_n dX10_whose_104 rfl ?_
      refine a_goto 119 dX10_whose_105 (by decide) ?_
      exact a_iret dX10_whose_119 rfl k
  · replace k := k.2 c1
    refine a_aload_n dX10_whose_46 rfl ?_
    refine a_iload dX10_whose_47 rfl ?_
    exact a_callV1 dX10_whose_49 (dh_Y_up cY_RX10_253 (by decide)) rfl rfl (Nat.le_of_ble_eq_true rfl) k
set_option maxRecDepth 100000 in
theorem w_X10_whose_52 {G : dh_G} {x1 x2 x3 x4 s0 : Int32} {h : dh_H} {Q : Option Value → dh_H → Prop} (k : ((s0 = 0) → dh_J G mX10_whose 37 [some (.ref 61), some (.int (x1)), some (.int (x2)), some (.int (x3)), some (.int (x4 + (nI 1))), none] [] h Q) ∧ ((¬ s0 = 0) → ((¬ x1 = (-1 : Int32)) → (vp_in x1 6) ∧ ((x2 = 0) → dh_J G mX10_whose 37 [some (.ref 61), some (.int (x1)), some (.int (x2 + (nI 1))), some (.int (h 75 x1.toNatClampNeg)), some (.int (x4 + (nI 1))), none] [] h Q) ∧ ((¬ x2 = 0) → ((¬ (h 75 x1.toNatClampNeg) = x3) → dh_J G mX10_whose 37 [some (.ref 61), some (.int (x1)), some (.int (x2 + (nI 1))), some (.int ((-2 : Int32))), some (.int (x4 + (nI 1))), none] [] h Q) ∧ (((h 75 x1.toNatClampNeg) = x3) → dh_J G mX10_whose 37 [some (.ref 61), some (.int (x1)), some (.int (x2 + (nI 1))), some (.int (h 75 x1.toNatClampNeg)), some (.int (x4 + (nI 1))), none] [] h Q))) ∧ ((x1 = (-1 : Int32)) → ((x2 = 0) → dh_J G mX10_whose 37 [some (.ref 61), some (.int (x1)), some (.int (x2 + (nI 1))), some (.int ((-1 : Int32))), some (.int (x4 + (nI 1))), none] [] h Q) ∧ ((¬ x2 = 0) → ((¬ (-1 : Int32) = x3) → dh_J G mX10_whose 37 [some (.ref 61), some (.int (x1)), some (.int (x2 + (nI 1))), some (.int ((-2 : Int32))), some (.int (x4 + (nI 1))), none] [] h Q) ∧ (((-1 : Int32) = x3) → dh_J G mX10_whose 37 [some (.ref 61), some (.int (x1)), some (.int (x2 + (nI 1))), some (.int ((-1 : Int32))), some (.int (x4 + (nI 1))), none] [] h Q))))) : dh_J G mX10_whose 52 [some (.ref 61), some (.int (x1)), some (.int (x2)), some (.int (x3)), some (.int (x4)), none] [.int (s0)] h Q := by
  refine a_if_eq 93 dX10_whose_52 (by decide) (fun c1 => ?_) (fun c1 => ?_)
  · replace k := k.1 c1
    refine a_iinc dX10_whose_93 (v := x4 + (nI 1)) rfl (by rfl) (by decide) rfl ?_
    refine a_goto 37 dX10_whose_96 (by decide) ?_
    exact k
  · replace k := k.2 c1
    refine a_iload_n dX10_whose_55 rfl ?_
    refine a_iconst dX10_whose_56 (v := (-1 : Int32)) (by decide) ?_
    refine a_icmp_ne 64 dX10_whose_57 (by decide) (fun c2 => ?_) (fun c2 => ?_)
    · replace k := k.1 c2
      refine a_aload_n dX10_whose_64 rfl ?_
      refine a_getR dX10_whose_65 fF_RX10_54 rfl rfl ?_
      refine a_iload_n dX10_whose_68 rfl ?_
      obtain ⟨e3, k⟩ := k
      refine a_iald dX10_whose_69 rfl e3 ?_
      refine a_istore dX10_whose_70 (by decide) rfl ?_
      refine a_iload_n dX10_whose_72 rfl ?_
      refine a_if_eq 82 dX10_whose_73 (by decide) (fun c4 => ?_) (fun c4 => ?_)
      · replace k := k.1 c4
        refine a_iload dX10_whose_82 rfl ?_
        refine a_goto 89 dX10_whose_84 (by decide) ?_
        refine a_istore_n dX10_whose_89 (by decide) rfl ?_
        refine a_iinc dX10_whose_90 (v := x2 + (nI 1)) rfl (by rfl) (by decide) rfl ?_
        refine a_iinc dX10_whose_93 (v := x4 + (nI 1)) rfl (by rfl) (by decide) rfl ?_
        refine a_goto 37 dX10_whose_96 (by decide) ?_
        refine dh_drop 5 ?_
        exact k
      · replace k := k.2 c4
        refine a_iload dX10_whose_76 rfl ?_
        refine a_iload_n dX10_whose_78 rfl ?_
        refine a_icmp_ne 87 dX10_whose_79 (by decide) (fun c5 => ?_) (fun c5 => ?_)
        · replace k := k.1 c5
          refine a_bipush dX10_whose_87 (v := (-2 : Int32)) (by decide) ?_
          refine a_istore_n dX10_whose_89 (by decide) rfl ?_
          refine a_iinc dX10_whose_90 (v := x2 + (nI 1)) rfl (by rfl) (by decide) rfl ?_
          refine a_iinc dX10_whose_93 (v := x4 + (nI 1)) rfl (by rfl) (by decide) rfl ?_
          refine a_goto 37 dX10_whose_96 (by decide) ?_
          refine dh_drop 5 ?_
          exact k
        · replace k := k.2 c5
          refine a_iload dX10_whose_82 rfl ?_
          refine a_goto 89 dX10_whose_84 (by decide) ?_
          refine a_istore_n dX10_whose_89 (by decide) rfl ?_
          refine a_iinc dX10_whose_90 (v := x2 + (nI 1)) rfl (by rfl) (by decide) rfl ?_
          refine a_iinc dX10_whose_93 (v := x4 + (nI 1)) rfl (by rfl) (by decide) rfl ?_
          refine a_goto 37 dX10_whose_96 (by decide) ?_
          refine dh_drop 5 ?_
          exact k
    · replace k := k.2 c2
      refine a_iconst dX10_whose_60 (v := (-1 : Int32)) (by decide) ?_
      refine a_goto 70 dX10_whose_61 (by decide) ?_
      refine a_istore dX10_whose_70 (by decide) rfl ?_
      refine a_iload_n dX10_whose_72 rfl ?_
      refine a_if_eq 82 dX10_whose_73 (by decide) (fun c6 => ?_) (fun c6 => ?_)
      · replace k := k.1 c6
        refine a_iload dX10_whose_82 rfl ?_
        refine a_goto 89 dX10_whose_84 (by decide) ?_
        refine a_istore_n dX10_whose_89 (by decide) rfl ?_
        refine a_iinc dX10_whose_90 (v := x2 + (nI 1)) rfl (by rfl) (by decide) rfl ?_
        refine a_iinc dX10_whose_93 (v := x4 + (nI 1)) rfl (by rfl) (by decide) rfl ?_
        refine a_goto 37 dX10_whose_96 (by decide) ?_
        refine dh_drop 5 ?_
        exact k
      · replace k := k.2 c6
        refine a_iload dX10_whose_76 rfl ?_
        refine a_iload_n dX10_whose_78 rfl ?_
        refine a_icmp_ne 87 dX10_whose_79 (by decide) (fun c7 => ?_) (fun c7 => ?_)
        · replace k := k.1 c7
          refine a_bipush dX10_whose_87 (v := (-2 : Int32)) (by decide) ?_
          refine a_istore_n dX10_whose_89 (by decide) rfl ?_
          refine a_iinc dX10_whose_90 (v := x2 + (nI 1)) rfl (by rfl) (by decide) rfl ?_
          refine a_iinc dX10_whose_93 (v := x4 + (nI 1)) rfl (by rfl) (by decide) rfl ?_
          refine a_goto 37 dX10_whose_96 (by decide) ?_
          refine dh_drop 5 ?_
          exact k
        · replace k := k.2 c7
          refine a_iload dX10_whose_82 rfl ?_
          refine a_goto 89 dX10_whose_84 (by decide) ?_
          refine a_istore_n dX10_whose_89 (by decide) rfl ?_
          refine a_iinc dX10_whose_90 (v := x2 + (nI 1)) rfl (by rfl) (by decide) rfl ?_
          refine a_iinc dX10_whose_93 (v := x4 + (nI 1)) rfl (by rfl) (by decide) rfl ?_
          refine a_goto 37 dX10_whose_96 (by decide) ?_
          refine dh_drop 5 ?_
          exact k
set_option maxRecDepth 100000 in
theorem w_X10_next_0 {G : dh_G} {h : dh_H} {Q : Option Value → dh_H → Prop} (k : (((h 61 19) ≤ (h 61 20)) → dh_J G mX10_next 18 [some (.ref 61), some (.int (nI 0)), some (.int (nI 0)), none, none, none] [] h Q) ∧ ((¬ (h 61 19) ≤ (h 61 20)) → Q (some (.int ((-1000000003 : Int32)))) h)) : dh_J G mX10_next 0 [some (.ref 61), none, none, none, none, none] [] h Q := by
  refine a_aload_n dX10_next_0 rfl ?_
  refine a_getI dX10_next_1 fF_RX10_73 rfl rfl ?_
  refine a_aload_n dX10_next_4 rfl ?_
  refine a_getI dX10_next_5 fF_RX10_66 rfl rfl ?_
  refine a_icmp_ge 14 dX10_next_8 (by decide) (fun c1 => ?_) (fun c1 => ?_)
  · replace k := k.1 c1
    refine a_iconst dX10_next_14 (v := nI 0) (by decide) ?_
    refine a_istore_n dX10_next_15 (by decide) rfl ?_
    refine a_iconst dX10_next_16 (v := nI 0) (by decide) ?_
    refine a_istore_n dX10_next_17 (by decide) rfl ?_
    exact k
  · replace k := k.2 c1
    refine a_ldc dX10_next_11 (v := (-1000000003 : Int32)) kK_RX10_203 ?_
    exact a_iret dX10_next_13 rfl k
theorem e_X10_next {G : dh_G} {h : dh_H} {Q : Option Value → dh_H → Prop} (k : (((h 61 19) ≤ (h 61 20)) → dh_J G mX10_next 18 [some (.ref 61), some (.int (nI 0)), some (.int (nI 0)), none, none, none] [] h Q) ∧ ((¬ (h 61 19) ≤ (h 61 20)) → Q (some (.int ((-1000000003 : Int32)))) h)) : dh_C G mX10_next [.ref 61] h Q := dh_C_of [some (.ref 61), none, none, none, none, none] (by decide) (Nat.le_of_ble_eq_true rfl) rfl (w_X10_next_0 k)
set_option maxRecDepth 100000 in
theorem w_X10_next_18 {G : dh_G} {x1 x2 : Int32} {h : dh_H} {Q : Option Value → dh_H → Prop} (k : (((nI 36) ≤ x2) → dh_J G mX10_next 39 [some (.ref 61), some (.int (x1)), some (.int (nI 0)), none, none, none] [] h Q) ∧ ((¬ (nI 36) ≤ x2) → (vp_in x2 36) ∧ dh_J G mX10_next 18 [some (.ref 61), some (.int (x1)), some (.int (x2 + (nI 1))), none, none, none] [] (dh_s h 78 x2.toNatClampNeg (nI 0)) Q)) : dh_J G mX10_next 18 [some (.ref 61), some (.int (x1)), some (.int (x2)), none, none, none] [] h Q := by
  refine a_iload_n dX10_next_18 rfl ?_
  refine a_bipush dX10_next_19 (v := nI 36) (by decide) ?_
  refine a_icmp_ge 37 dX10_next_21 (by decide) (fun c1 => ?_) (fun c1 => ?_)
  · replace k := k.1 c1
    refine a_iconst dX10_next_37 (v := nI 0) (by decide) ?_
    refine a_istore_n dX10_next_38 (by decide) rfl ?_
    exact k
  · replace k := k.2 c1
    refine a_aload_n dX10_next_24 rfl ?_
    refine a_getR dX10_next_25 fF_RX10_63 rfl rfl ?_
    refine a_iload_n dX10_next_28 rfl ?_
    refine a_iconst dX10_next_29 (v := nI 0) (by decide) ?_
    obtain ⟨e2, k⟩ := k
    refine a_iast dX10_next_30 rfl e2 ?_
    refine a_iinc dX10_next_31 (v := x2 + (nI 1)) rfl (by rfl) (by decide) rfl ?_
    refine a_goto 18 dX10_next_34 (by decide) ?_
    exact k
set_option maxRecDepth 100000 in
theorem w_X10_next_39 {G : dh_G} {x1 x2 : Int32} {h : dh_H} {Q : Option Value → dh_H → Prop} (k : dh_C G mX10_ownings [.ref 61] h (fun v h1 => dh_J G mX10_next 44 [some (.ref 61), some (.int (x1)), some (.int (x2)), none, none, none] (v.toList ++ [.int (x2)]) h1 Q)) : dh_J G mX10_next 39 [some (.ref 61), some (.int (x1)), some (.int (x2)), none, none, none] [] h Q := by
  refine a_iload_n dX10_next_39 rfl ?_
  refine a_aload_n dX10_next_40 rfl ?_
  exact a_callV0 dX10_next_41 (dh_Y_up cY_RX10_250 (by decide)) rfl rfl (Nat.le_of_ble_eq_true rfl) k
set_option maxRecDepth 100000 in
theorem w_X10_next_44 {G : dh_G} {x1 x2 s0 s1 : Int32} {h : dh_H} {Q : Option Value → dh_H → Prop} (k : ((s1 ≤ s0) → dh_J G mX10_next 157 [some (.ref 61), some (.int (x1)), some (.int ((-1 : Int32))), some (.int (x1)), some (.int (nI 0)), none] [] h Q) ∧ ((¬ s1 ≤ s0) → dh_C G mX10_layOwning [.ref 61, .int (x2)] h (fun v h1 => dh_J G mX10_next 52 [some (.ref 61), some (.int (x1)), some (.int (x2)), none, none, none] (v.toList ++ []) h1 Q))) : dh_J G mX10_next 44 [some (.ref 61), some (.int (x1)), some (.int (x2)), none, none, none] [.int (s1), .int (s0)] h Q := by
  refine a_icmp_ge 150 dX10_next_44 (by decide) (fun c1 => ?_) (fun c1 => ?_)
  · replace k := k.1 c1
    refine a_iconst dX10_next_150 (v := (-1 : Int32)) (by decide) ?_
    refine a_istore_n dX10_next_151 (by decide) rfl ?_
    refine a_iload_n dX10_next_152 rfl ?_
    refine a_istore_n dX10_next_153 (by decide) rfl ?_
    refine a_iconst dX10_next_154 (v := nI 0) (by decide) ?_
    refine a_istore dX10_next_155 (by decide) rfl ?_
    exact k
  · replace k := k.2 c1
    refine a_aload_n dX10_next_47 rfl ?_
    refine a_iload_n dX10_next_48 rfl ?_
    exact a_callV1 dX10_next_49 (dh_Y_up cY_RX10_253 (by decide)) rfl rfl (Nat.le_of_ble_eq_true rfl) k
set_option maxRecDepth 100000 in
theorem w_X10_next_52 {G : dh_G} {x1 x2 s0 : Int32} {h : dh_H} {Q : Option Value → dh_H → Prop} (k : ((s0 = 0) → dh_J G mX10_next 39 [some (.ref 61), some (.int (x1)), some (.int (x2 + (nI 1))), none, none, none] [] h Q) ∧ ((¬ s0 = 0) → dh_J G mX10_next 60 [some (.ref 61), some (.int (x1 + (nI 1))), some (.int (x2)), some (.int (nI 0)), none, none] [] h Q)) : dh_J G mX10_next 52 [some (.ref 61), some (.int (x1)), some (.int (x2)), none, none, none] [.int (s0)] h Q := by
  refine a_if_eq 144 dX10_next_52 (by decide) (fun c1 => ?_) (fun c1 => ?_)
  · replace k := k.1 c1
    refine a_iinc dX10_next_144 (v := x2 + (nI 1)) rfl (by rfl) (by decide) rfl ?_
    refine a_goto 39 dX10_next_147 (by decide) ?_
    exact k
  · replace k := k.2 c1
    refine a_iinc dX10_next_55 (v := x1 + (nI 1)) rfl (by rfl) (by decide) rfl ?_
    refine a_iconst dX10_next_58 (v := nI 0) (by decide) ?_
    refine a_istore_n dX10_next_59 (by decide) rfl ?_
    exact k
set_option maxRecDepth 100000 in
theorem w_X10_next_60 {G : dh_G} {x1 x2 x3 : Int32} {h : dh_H} {Q : Option Value → dh_H → Prop} (k : (((nI 36) ≤ x3) → dh_J G mX10_next 39 [some (.ref 61), some (.int (x1)), some (.int (x2 + (nI 1))), none, none, none] [] h Q) ∧ ((¬ (nI 36) ≤ x3) → (¬ nI 6 = 0) ∧ (((h 61 19) ≤ (x3 / (nI 6))) → (vp_in x3 36) ∧ (((nI 0) = 0) → (vp_in x3 36) ∧ dh_J G mX10_next 60 [some (.ref 61), some (.int (x1)), some (.int (x2)), some (.int (x3 + (nI 1))), none, none] [] (dh_s h 78 x3.toNatClampNeg ((h 78 x3.toNatClampNeg) + (nI 0))) Q) ∧ ((¬ (nI 0) = 0) → (vp_in x3 36) ∧ dh_J G mX10_next 60 [some (.ref 61), some (.int (x1)), some (.int (x2)), some (.int (x3 + (nI 1))), none, none] [] (dh_s h 78 x3.toNatClampNeg ((h 78 x3.toNatClampNeg) + (nI 1))) Q)) ∧ ((¬ (h 61 19) ≤ (x3 / (nI 6))) → (¬ nI 6 = 0) ∧ (((h 61 20) ≤ (x3 - x3 / (nI 6) * (nI 6))) → (vp_in x3 36) ∧ (((nI 0) = 0) → (vp_in x3 36) ∧ dh_J G mX10_next 60 [some (.ref 61), some (.int (x1)), some (.int (x2)), some (.int (x3 + (nI 1))), none, none] [] (dh_s h 78 x3.toNatClampNeg ((h 78 x3.toNatClampNeg) + (nI 0))) Q) ∧ ((¬ (nI 0) = 0) → (vp_in x3 36) ∧ dh_J G mX10_next 60 [some (.ref 61), some (.int (x1)), some (.int (x2)), some (.int (x3 + (nI 1))), none, none] [] (dh_s h 78 x3.toNatClampNeg ((h 78 x3.toNatClampNeg) + (nI 1))) Q)) ∧ ((¬ (h 61 20) ≤ (x3 - x3 / (nI 6) * (nI 6))) → (¬ nI 6 = 0) ∧ (¬ nI 6 = 0) ∧ (¬ nI 6 = 0) ∧ (vp_in (x3 / (nI 6)) 6) ∧ dh_C G mX10_takesBy [.ref 61, .int (x3 / (nI 6)), .int (x3 - x3 / (nI 6) * (nI 6)), .int (h 75 (x3 / (nI 6)).toNatClampNeg)] h (fun v h1 => dh_J G mX10_next 109 [some (.ref 61), some (.int (x1)), some (.int (x2)), some (.int (x3)), none, none] (v.toList ++ []) h1 Q))))) : dh_J G mX10_next 60 [some (.ref 61), some (.int (x1)), some (.int (x2)), some (.int (x3)), none, none] [] h Q := by
  refine a_iload_n dX10_next_60 rfl ?_
  refine a_bipush dX10_next_61 (v := nI 36) (by decide) ?_
  refine a_icmp_ge 144 dX10_next_63 (by decide) (fun c1 => ?_) (fun c1 => ?_)
  · replace k := k.1 c1
    refine a_iinc dX10_next_144 (v := x2 + (nI 1)) rfl (by rfl) (by decide) rfl ?_
    refine a_goto 39 dX10_next_147 (by decide) ?_
    refine dh_drop 3 ?_
    exact k
  · replace k := k.2 c1
    refine a_iload_n dX10_next_66 rfl ?_
    refine a_bipush dX10_next_67 (v := nI 6) (by decide) ?_
    obtain ⟨e2, k⟩ := k
    refine a_idiv dX10_next_69 e2 ?_
    refine a_aload_n dX10_next_70 rfl ?_
    refine a_getI dX10_next_71 fF_RX10_66 rfl rfl ?_
    refine a_icmp_ge 116 dX10_next_74 (by decide) (fun c3 => ?_) (fun c3 => ?_)
    · replace k := k.1 c3
      refine a_iconst dX10_next_116 (v := nI 0) (by decide) ?_
      refine a_istore dX10_next_117 (by decide) rfl ?_
      refine a_aload_n dX10_next_119 rfl ?_
      refine a_getR dX10_next_120 fF_RX10_63 rfl rfl ?_
      refine a_iload_n dX10_next_123 rfl ?_
      refine a_dup2 dX10_next_124 rfl rfl ?_
      obtain ⟨e4, k⟩ := k
      refine a_iald dX10_next_125 rfl e4 ?_
      refine a_iload dX10_next_126 rfl ?_
      refine a_if_eq 135 dX10_next_128 (by decide) (fun c5 => ?_) (fun c5 => ?_)
      · replace k := k.1 c5
        refine a_iconst dX10_next_135 (v := nI 0) (by decide) ?_
        refine a_iadd dX10_next_136 ?_
        obtain ⟨e6, k⟩ := k
        refine a_iast dX10_next_137 rfl e6 ?_
        refine a_iinc dX10_next_138 (v := x3 + (nI 1)) rfl (by rfl) (by decide) rfl ?_
        refine a_goto 60 dX10_next_141 (by decide) ?_
        refine dh_drop 4 ?_
        exact k
      · replace k := k.2 c5
        refine a_iconst dX10_next_131 (v := nI 1) (by decide) ?_
        refine a_goto 136 dX10_next_132 (by decide) ?_
        refine a_iadd dX10_next_136 ?_
        obtain ⟨e7, k⟩ := k
        refine a_iast dX10_next_137 rfl e7 ?_
        refine a_iinc dX10_next_138 (v := x3 + (nI 1)) rfl (by rfl) (by decide) rfl ?_
        refine a_goto 60 dX10_next_141 (by decide) ?_
        refine dh_drop 4 ?_
        exact k
    · replace k := k.2 c3
      refine a_iload_n dX10_next_77 rfl ?_
      refine a_bipush dX10_next_78 (v := nI 6) (by decide) ?_
      obtain ⟨e8, k⟩ := k
      refine a_irem dX10_next_80 e8 ?_
      refine a_aload_n dX10_next_81 rfl ?_
      refine a_getI dX10_next_82 fF_RX10_73 rfl rfl ?_
      refine a_icmp_ge 116 dX10_next_85 (by decide) (fun c9 => ?_) (fun c9 => ?_)
      · replace k := k.1 c9
        refine a_iconst dX10_next_116 (v := nI 0) (by decide) ?_
        refine a_istore dX10_next_117 (by decide) rfl ?_
        refine a_aload_n dX10_next_119 rfl ?_
        refine a_getR dX10_next_120 fF_RX10_63 rfl rfl ?_
        refine a_iload_n dX10_next_123 rfl ?_
        refine a_dup2 dX10_next_124 rfl rfl ?_
        obtain ⟨e10, k⟩ := k
        refine a_iald dX10_next_125 rfl e10 ?_
        refine a_iload dX10_next_126 rfl ?_
        refine a_if_eq 135 dX10_next_128 (by decide) (fun c11 => ?_) (fun c11 => ?_)
        · replace k := k.1 c11
          refine a_iconst dX10_next_135 (v := nI 0) (by decide) ?_
          refine a_iadd dX10_next_136 ?_
          obtain ⟨e12, k⟩ := k
          refine a_iast dX10_next_137 rfl e12 ?_
          refine a_iinc dX10_next_138 (v := x3 + (nI 1)) rfl (by rfl) (by decide) rfl ?_
          refine a_goto 60 dX10_next_141 (by decide) ?_
          refine dh_drop 4 ?_
          exact k
        · replace k := k.2 c11
          refine a_iconst dX10_next_131 (v := nI 1) (by decide) ?_
          refine a_goto 136 dX10_next_132 (by decide) ?_
          refine a_iadd dX10_next_136 ?_
          obtain ⟨e13, k⟩ := k
          refine a_iast dX10_next_137 rfl e13 ?_
          refine a_iinc dX10_next_138 (v := x3 + (nI 1)) rfl (by rfl) (by decide) rfl ?_
          refine a_goto 60 dX10_next_141 (by decide) ?_
          refine dh_drop 4 ?_
          exact k
      · replace k := k.2 c9
        refine a_aload_n dX10_next_88 rfl ?_
        refine a_iload_n dX10_next_89 rfl ?_
        refine a_bipush dX10_next_90 (v := nI 6) (by decide) ?_
        obtain ⟨e14, k⟩ := k
        refine a_idiv dX10_next_92 e14 ?_
        refine a_iload_n dX10_next_93 rfl ?_
        refine a_bipush dX10_next_94 (v := nI 6) (by decide) ?_
        obtain ⟨e15, k⟩ := k
        refine a_irem dX10_next_96 e15 ?_
        refine a_aload_n dX10_next_97 rfl ?_
        refine a_getR dX10_next_98 fF_RX10_54 rfl rfl ?_
        refine a_iload_n dX10_next_101 rfl ?_
        refine a_bipush dX10_next_102 (v := nI 6) (by decide) ?_
        obtain ⟨e16, k⟩ := k
        refine a_idiv dX10_next_104 e16 ?_
        obtain ⟨e17, k⟩ := k
        refine a_iald dX10_next_105 rfl e17 ?_
        exact a_callV3 dX10_next_106 (dh_Y_up cY_RX10_170 (by decide)) rfl rfl (Nat.le_of_ble_eq_true rfl) k
set_option maxRecDepth 100000 in
theorem w_X10_next_109 {G : dh_G} {x1 x2 x3 s0 : Int32} {h : dh_H} {Q : Option Value → dh_H → Prop} (k : ((s0 = 0) → (vp_in x3 36) ∧ (((nI 0) = 0) → (vp_in x3 36) ∧ dh_J G mX10_next 60 [some (.ref 61), some (.int (x1)), some (.int (x2)), some (.int (x3 + (nI 1))), none, none] [] (dh_s h 78 x3.toNatClampNeg ((h 78 x3.toNatClampNeg) + (nI 0))) Q) ∧ ((¬ (nI 0) = 0) → (vp_in x3 36) ∧ dh_J G mX10_next 60 [some (.ref 61), some (.int (x1)), some (.int (x2)), some (.int (x3 + (nI 1))), none, none] [] (dh_s h 78 x3.toNatClampNeg ((h 78 x3.toNatClampNeg) + (nI 1))) Q)) ∧ ((¬ s0 = 0) → (vp_in x3 36) ∧ (((nI 1) = 0) → (vp_in x3 36) ∧ dh_J G mX10_next 60 [some (.ref 61), some (.int (x1)), some (.int (x2)), some (.int (x3 + (nI 1))), none, none] [] (dh_s h 78 x3.toNatClampNeg ((h 78 x3.toNatClampNeg) + (nI 0))) Q) ∧ ((¬ (nI 1) = 0) → (vp_in x3 36) ∧ dh_J G mX10_next 60 [some (.ref 61), some (.int (x1)), some (.int (x2)), some (.int (x3 + (nI 1))), none, none] [] (dh_s h 78 x3.toNatClampNeg ((h 78 x3.toNatClampNeg) + (nI 1))) Q))) : dh_J G mX10_next 109 [some (.ref 61), some (.int (x1)), some (.int (x2)), some (.int (x3)), none, none] [.int (s0)] h Q := by
  refine a_if_eq 116 dX10_next_109 (by decide) (fun c1 => ?_) (fun c1 => ?_)
  · replace k := k.1 c1
    refine a_iconst dX10_next_116 (v := nI 0) (by decide) ?_
    refine a_istore dX10_next_117 (by decide) rfl ?_
    refine a_aload_n dX10_next_119 rfl ?_
    refine a_getR dX10_next_120 fF_RX10_63 rfl rfl ?_
    refine a_iload_n dX10_next_123 rfl ?_
    refine a_dup2 dX10_next_124 rfl rfl ?_
    obtain ⟨e2, k⟩ := k
    refine a_iald dX10_next_125 rfl e2 ?_
    refine a_iload dX10_next_126 rfl ?_
    refine a_if_eq 135 dX10_next_128 (by decide) (fun c3 => ?_) (fun c3 => ?_)
    · replace k := k.1 c3
      refine a_iconst dX10_next_135 (v := nI 0) (by decide) ?_
      refine a_iadd dX10_next_136 ?_
      obtain ⟨e4, k⟩ := k
      refine a_iast dX10_next_137 rfl e4 ?_
      refine a_iinc dX10_next_138 (v := x3 + (nI 1)) rfl (by rfl) (by decide) rfl ?_
      refine a_goto 60 dX10_next_141 (by decide) ?_
      refine dh_drop 4 ?_
      exact k
    · replace k := k.2 c3
      refine a_iconst dX10_next_131 (v := nI 1) (by decide) ?_
      refine a_goto 136 dX10_next_132 (by decide) ?_
      refine a_iadd dX10_next_136 ?_
      obtain ⟨e5, k⟩ := k
      refine a_iast dX10_next_137 rfl e5 ?_
      refine a_iinc dX10_next_138 (v := x3 + (nI 1)) rfl (by rfl) (by decide) rfl ?_
      refine a_goto 60 dX10_next_141 (by decide) ?_
      refine dh_drop 4 ?_
      exact k
  · replace k := k.2 c1
    refine a_iconst dX10_next_112 (v := nI 1) (by decide) ?_
    refine a_goto 117 dX10_next_113 (by decide) ?_
    refine a_istore dX10_next_117 (by decide) rfl ?_
    refine a_aload_n dX10_next_119 rfl ?_
    refine a_getR dX10_next_120 fF_RX10_63 rfl rfl ?_
    refine a_iload_n dX10_next_123 rfl ?_
    refine a_dup2 dX10_next_124 rfl rfl ?_
    obtain ⟨e6, k⟩ := k
    refine a_iald dX10_next_125 rfl e6 ?_
    refine a_iload dX10_next_126 rfl ?_
    refine a_if_eq 135 dX10_next_128 (by decide) (fun c7 => ?_) (fun c7 => ?_)
    · replace k := k.1 c7
      refine a_iconst dX10_next_135 (v := nI 0) (by decide) ?_
      refine a_iadd dX10_next_136 ?_
      obtain ⟨e8, k⟩ := k
      refine a_iast dX10_next_137 rfl e8 ?_
      refine a_iinc dX10_next_138 (v := x3 + (nI 1)) rfl (by rfl) (by decide) rfl ?_
      refine a_goto 60 dX10_next_141 (by decide) ?_
      refine dh_drop 4 ?_
      exact k
    · replace k := k.2 c7
      refine a_iconst dX10_next_131 (v := nI 1) (by decide) ?_
      refine a_goto 136 dX10_next_132 (by decide) ?_
      refine a_iadd dX10_next_136 ?_
      obtain ⟨e9, k⟩ := k
      refine a_iast dX10_next_137 rfl e9 ?_
      refine a_iinc dX10_next_138 (v := x3 + (nI 1)) rfl (by rfl) (by decide) rfl ?_
      refine a_goto 60 dX10_next_141 (by decide) ?_
      refine dh_drop 4 ?_
      exact k
set_option maxRecDepth 100000 in
theorem w_X10_next_157 {G : dh_G} {x1 x2 x3 x4 : Int32} {h : dh_H} {Q : Option Value → dh_H → Prop} (k : (((nI 36) ≤ x4) → Q (some (.int (x2))) h) ∧ ((¬ (nI 36) ≤ x4) → (vp_in x4 36) ∧ (vp_in x4 36) ∧ (((h 78 x4.toNatClampNeg) ≤ (x1 - (h 78 x4.toNatClampNeg))) → (vp_in x4 36) ∧ ((x3 ≤ (x1 - (h 78 x4.toNatClampNeg))) → ((x3 ≤ (x1 - (h 78 x4.toNatClampNeg))) → dh_J G mX10_next 157 [some (.ref 61), some (.int (x1)), some (.int (x2)), some (.int (x3)), some (.int (x4 + (nI 1))), none] [] h Q) ∧ ((¬ x3 ≤ (x1 - (h 78 x4.toNatClampNeg))) → dh_J G mX10_next 157 [some (.ref 61), some (.int (x1)), some (.int (x2)), some (.int (x1 - (h 78 x4.toNatClampNeg))), some (.int (x4 + (nI 1))), none] [] h Q)) ∧ ((¬ x3 ≤ (x1 - (h 78 x4.toNatClampNeg))) → (¬ nI 6 = 0) ∧ (¬ nI 6 = 0) ∧ ((x3 ≤ (x1 - (h 78 x4.toNatClampNeg))) → dh_J G mX10_next 157 [some (.ref 61), some (.int (x1)), some (.int (((nI 10) * (x4 / (nI 6))) + (x4 - x4 / (nI 6) * (nI 6)))), some (.int (x3)), some (.int (x4 + (nI 1))), none] [] h Q) ∧ ((¬ x3 ≤ (x1 - (h 78 x4.toNatClampNeg))) → dh_J G mX10_next 157 [some (.ref 61), some (.int (x1)), some (.int (((nI 10) * (x4 / (nI 6))) + (x4 - x4 / (nI 6) * (nI 6)))), some (.int (x1 - (h 78 x4.toNatClampNeg))), some (.int (x4 + (nI 1))), none] [] h Q))) ∧ ((¬ (h 78 x4.toNatClampNeg) ≤ (x1 - (h 78 x4.toNatClampNeg))) → (vp_in x4 36) ∧ ((x3 ≤ (h 78 x4.toNatClampNeg)) → ((x3 ≤ (h 78 x4.toNatClampNeg)) → dh_J G mX10_next 157 [some (.ref 61), some (.int (x1)), some (.int (x2)), some (.int (x3)), some (.int (x4 + (nI 1))), none] [] h Q) ∧ ((¬ x3 ≤ (h 78 x4.toNatClampNeg)) → dh_J G mX10_next 157 [some (.ref 61), some (.int (x1)), some (.int (x2)), some (.int (h 78 x4.toNatClampNeg)), some (.int (x4 + (nI 1))), none] [] h Q)) ∧ ((¬ x3 ≤ (h 78 x4.toNatClampNeg)) → (¬ nI 6 = 0) ∧ (¬ nI 6 = 0) ∧ ((x3 ≤ (h 78 x4.toNatClampNeg)) → dh_J G mX10_next 157 [some (.ref 61), some (.int (x1)), some (.int (((nI 10) * (x4 / (nI 6))) + (x4 - x4 / (nI 6) * (nI 6)))), some (.int (x3)), some (.int (x4 + (nI 1))), none] [] h Q) ∧ ((¬ x3 ≤ (h 78 x4.toNatClampNeg)) → dh_J G mX10_next 157 [some (.ref 61), some (.int (x1)), some (.int (((nI 10) * (x4 / (nI 6))) + (x4 - x4 / (nI 6) * (nI 6)))), some (.int (h 78 x4.toNatClampNeg)), some (.int (x4 + (nI 1))), none] [] h Q))))) : dh_J G mX10_next 157 [some (.ref 61), some (.int (x1)), some (.int (x2)), some (.int (x3)), some (.int (x4)), none] [] h Q := by
  refine a_iload dX10_next_157 rfl ?_
  refine a_bipush dX10_next_159 (v := nI 36) (by decide) ?_
  refine a_icmp_ge 248 dX10_next_161 (by decide) (fun c1 => ?_) (fun c1 => ?_)
  · replace k := k.1 c1
    refine a_iload_n dX10_next_248 rfl ?_
    exact a_iret dX10_next_249 rfl k
  · replace k := k.2 c1
    refine a_aload_n dX10_next_164 rfl ?_
    refine a_getR dX10_next_165 fF_RX10_63 rfl rfl ?_
    refine a_iload dX10_next_168 rfl ?_
    obtain ⟨e2, k⟩ := k
    refine a_iald dX10_next_170 rfl e2 ?_
    refine a_iload_n dX10_next_171 rfl ?_
    refine a_aload_n dX10_next_172 rfl ?_
    refine a_getR dX10_next_173 fF_RX10_63 rfl rfl ?_
    refine a_iload dX10_next_176 rfl ?_
    obtain ⟨e3, k⟩ := k
    refine a_iald dX10_next_178 rfl e3 ?_
    refine a_isub dX10_next_179 ?_
    refine a_icmp_le 193 dX10_next_180 (by decide) (fun c4 => ?_) (fun c4 => ?_)
    · replace k := k.1 c4
      refine a_iload_n dX10_next_193 rfl ?_
      refine a_aload_n dX10_next_194 rfl ?_
      refine a_getR dX10_next_195 fF_RX10_63 rfl rfl ?_
      refine a_iload dX10_next_198 rfl ?_
      obtain ⟨e5, k⟩ := k
      refine a_iald dX10_next_200 rfl e5 ?_
      refine a_isub dX10_next_201 ?_
      refine a_istore dX10_next_202 (by decide) rfl ?_
      refine a_iload dX10_next_204 rfl ?_
      refine a_iload_n dX10_next_206 rfl ?_
      refine a_icmp_ge 227 dX10_next_207 (by decide) (fun c6 => ?_) (fun c6 => ?_)
      · replace k := k.1 c6
        refine a_iload_n dX10_next_227 rfl ?_
        refine a_istore_n dX10_next_228 (by decide) rfl ?_
        refine a_iload dX10_next_229 rfl ?_
        refine a_iload_n dX10_next_231 rfl ?_
        refine a_icmp_ge 240 dX10_next_232 (by decide) (fun c7 => ?_) (fun c7 => ?_)
        · replace k := k.1 c7
          refine a_iload_n dX10_next_240 rfl ?_
          refine a_istore_n dX10_next_241 (by decide) rfl ?_
          refine a_iinc dX10_next_242 (v := x4 + (nI 1)) rfl (by rfl) (by decide) rfl ?_
          refine a_goto 157 dX10_next_245 (by decide) ?_
          refine dh_drop 5 ?_
          exact k
        · replace k := k.2 c7
          refine a_iload dX10_next_235 rfl ?_
          refine a_goto 241 dX10_next_237 (by decide) ?_
          refine a_istore_n dX10_next_241 (by decide) rfl ?_
          refine a_iinc dX10_next_242 (v := x4 + (nI 1)) rfl (by rfl) (by decide) rfl ?_
          refine a_goto 157 dX10_next_245 (by decide) ?_
          refine dh_drop 5 ?_
          exact k
      · replace k := k.2 c6
        refine a_bipush dX10_next_210 (v := nI 10) (by decide) ?_
        refine a_iload dX10_next_212 rfl ?_
        refine a_bipush dX10_next_214 (v := nI 6) (by decide) ?_
        obtain ⟨e8, k⟩ := k
        refine a_idiv dX10_next_216 e8 ?_
        refine a_imul dX10_next_217 ?_
        refine a_iload dX10_next_218 rfl ?_
        refine a_bipush dX10_next_220 (v := nI 6) (by decide) ?_
        obtain ⟨e9, k⟩ := k
        refine a_irem dX10_next_222 e9 ?_
        refine a_iadd dX10_next_223 ?_
        refine a_goto 228 dX10_next_224 (by decide) ?_
        refine a_istore_n dX10_next_228 (by decide) rfl ?_
        refine a_iload dX10_next_229 rfl ?_
        refine a_iload_n dX10_next_231 rfl ?_
        refine a_icmp_ge 240 dX10_next_232 (by decide) (fun c10 => ?_) (fun c10 => ?_)
        · replace k := k.1 c10
          refine a_iload_n dX10_next_240 rfl ?_
          refine a_istore_n dX10_next_241 (by decide) rfl ?_
          refine a_iinc dX10_next_242 (v := x4 + (nI 1)) rfl (by rfl) (by decide) rfl ?_
          refine a_goto 157 dX10_next_245 (by decide) ?_
          refine dh_drop 5 ?_
          exact k
        · replace k := k.2 c10
          refine a_iload dX10_next_235 rfl ?_
          refine a_goto 241 dX10_next_237 (by decide) ?_
          refine a_istore_n dX10_next_241 (by decide) rfl ?_
          refine a_iinc dX10_next_242 (v := x4 + (nI 1)) rfl (by rfl) (by decide) rfl ?_
          refine a_goto 157 dX10_next_245 (by decide) ?_
          refine dh_drop 5 ?_
          exact k
    · replace k := k.2 c4
      refine a_aload_n dX10_next_183 rfl ?_
      refine a_getR dX10_next_184 fF_RX10_63 rfl rfl ?_
      refine a_iload dX10_next_187 rfl ?_
      obtain ⟨e11, k⟩ := k
      refine a_iald dX10_next_189 rfl e11 ?_
      refine a_goto 202 dX10_next_190 (by decide) ?_
      refine a_istore dX10_next_202 (by decide) rfl ?_
      refine a_iload dX10_next_204 rfl ?_
      refine a_iload_n dX10_next_206 rfl ?_
      refine a_icmp_ge 227 dX10_next_207 (by decide) (fun c12 => ?_) (fun c12 => ?_)
      · replace k := k.1 c12
        refine a_iload_n dX10_next_227 rfl ?_
        refine a_istore_n dX10_next_228 (by decide) rfl ?_
        refine a_iload dX10_next_229 rfl ?_
        refine a_iload_n dX10_next_231 rfl ?_
        refine a_icmp_ge 240 dX10_next_232 (by decide) (fun c13 => ?_) (fun c13 => ?_)
        · replace k := k.1 c13
          refine a_iload_n dX10_next_240 rfl ?_
          refine a_istore_n dX10_next_241 (by decide) rfl ?_
          refine a_iinc dX10_next_242 (v := x4 + (nI 1)) rfl (by rfl) (by decide) rfl ?_
          refine a_goto 157 dX10_next_245 (by decide) ?_
          refine dh_drop 5 ?_
          exact k
        · replace k := k.2 c13
          refine a_iload dX10_next_235 rfl ?_
          refine a_goto 241 dX10_next_237 (by decide) ?_
          refine a_istore_n dX10_next_241 (by decide) rfl ?_
          refine a_iinc dX10_next_242 (v := x4 + (nI 1)) rfl (by rfl) (by decide) rfl ?_
          refine a_goto 157 dX10_next_245 (by decide) ?_
          refine dh_drop 5 ?_
          exact k
      · replace k := k.2 c12
        refine a_bipush dX10_next_210 (v := nI 10) (by decide) ?_
        refine a_iload dX10_next_212 rfl ?_
        refine a_bipush dX10_next_214 (v := nI 6) (by decide) ?_
        obtain ⟨e14, k⟩ := k
        refine a_idiv dX10_next_216 e14 ?_
        refine a_imul dX10_next_217 ?_
        refine a_iload dX10_next_218 rfl ?_
        refine a_bipush dX10_next_220 (v := nI 6) (by decide) ?_
        obtain ⟨e15, k⟩ := k
        refine a_irem dX10_next_222 e15 ?_
        refine a_iadd dX10_next_223 ?_
        refine a_goto 228 dX10_next_224 (by decide) ?_
        refine a_istore_n dX10_next_228 (by decide) rfl ?_
        refine a_iload dX10_next_229 rfl ?_
        refine a_iload_n dX10_next_231 rfl ?_
        refine a_icmp_ge 240 dX10_next_232 (by decide) (fun c16 => ?_) (fun c16 => ?_)
        · replace k := k.1 c16
          refine a_iload_n dX10_next_240 rfl ?_
          refine a_istore_n dX10_next_241 (by decide) rfl ?_
          refine a_iinc dX10_next_242 (v := x4 + (nI 1)) rfl (by rfl) (by decide) rfl ?_
          refine a_goto 157 dX10_next_245 (by decide) ?_
          refine dh_drop 5 ?_
          exact k
        · replace k := k.2 c16
          refine a_iload dX10_next_235 rfl ?_
          refine a_goto 241 dX10_next_237 (by decide) ?_
          refine a_istore_n dX10_next_241 (by decide) rfl ?_
          refine a_iinc dX10_next_242 (v := x4 + (nI 1)) rfl (by rfl) (by decide) rfl ?_
          refine a_goto 157 dX10_next_245 (by decide) ?_
          refine dh_drop 5 ?_
          exact k
set_option maxRecDepth 100000 in
theorem w_X10_write_0 {G : dh_G} {x1 x2 : Int32} {h : dh_H} {Q : Option Value → dh_H → Prop} (k : dh_C G mX10_isDummy [.ref 61, .int (x1)] h (fun v h1 => dh_J G mX10_write 5 [some (.ref 61), some (.int (x1)), some (.int (x2))] (v.toList ++ []) h1 Q)) : dh_J G mX10_write 0 [some (.ref 61), some (.int (x1)), some (.int (x2))] [] h Q := by
  refine a_aload_n dX10_write_0 rfl ?_
  refine a_iload_n dX10_write_1 rfl ?_
  exact a_callV1 dX10_write_2 (dh_Y_up cY_RX10_193 (by decide)) rfl rfl (Nat.le_of_ble_eq_true rfl) k
theorem e_X10_write {G : dh_G} {x1 x2 : Int32} {h : dh_H} {Q : Option Value → dh_H → Prop} (k : dh_C G mX10_isDummy [.ref 61, .int (x1)] h (fun v h1 => dh_J G mX10_write 5 [some (.ref 61), some (.int (x1)), some (.int (x2))] (v.toList ++ []) h1 Q)) : dh_C G mX10_write [.ref 61, .int (x1), .int (x2)] h Q := dh_C_of [some (.ref 61), some (.int (x1)), some (.int (x2))] (by decide) (Nat.le_of_ble_eq_true rfl) rfl (w_X10_write_0 k)
set_option maxRecDepth 100000 in
theorem w_X10_write_5 {G : dh_G} {x1 x2 s0 : Int32} {h : dh_H} {Q : Option Value → dh_H → Prop} (k : ((s0 = 0) → Q (some (.int ((-1000000001 : Int32)))) h) ∧ ((¬ s0 = 0) → ((x2 = (-1 : Int32)) → ((¬ (h 61 33) = (nI 15)) → (vp_in ((nI 2) * (h 61 33)) 30) ∧ (vp_in (((nI 2) * (h 61 33)) + (nI 1)) 30) ∧ Q (some (.int ((h 61 33) + (nI 1)))) (dh_s (dh_s (dh_s h 74 ((nI 2) * (h 61 33)).toNatClampNeg x1) 74 (((nI 2) * (h 61 33)) + (nI 1)).toNatClampNeg x2) 61 33 ((h 61 33) + (nI 1)))) ∧ (((h 61 33) = (nI 15)) → Q (some (.int ((-1000000004 : Int32)))) h)) ∧ ((¬ x2 = (-1 : Int32)) → dh_C G mX10_isChild [.ref 61, .int (x2)] h (fun v h1 => dh_J G mX10_write 18 [some (.ref 61), some (.int (x1)), some (.int (x2))] (v.toList ++ []) h1 Q)))) : dh_J G mX10_write 5 [some (.ref 61), some (.int (x1)), some (.int (x2))] [.int (s0)] h Q := by
  refine a_if_eq 21 dX10_write_5 (by decide) (fun c1 => ?_) (fun c1 => ?_)
  · replace k := k.1 c1
    refine a_ldc dX10_write_21 (v := (-1000000001 : Int32)) kK_RX10_192 ?_
    exact a_iret dX10_write_23 rfl k
  · replace k := k.2 c1
    refine a_iload_n dX10_write_8 rfl ?_
    refine a_iconst dX10_write_9 (v := (-1 : Int32)) (by decide) ?_
    refine a_icmp_eq 24 dX10_write_10 (by decide) (fun c2 => ?_) (fun c2 => ?_)
    · replace k := k.1 c2
      refine a_aload_n dX10_write_24 rfl ?_
      refine a_getI dX10_write_25 fF_RX10_164 rfl rfl ?_
      refine a_bipush dX10_write_28 (v := nI 15) (by decide) ?_
      refine a_icmp_ne 36 dX10_write_30 (by decide) (fun c3 => ?_) (fun c3 => ?_)
      · replace k := k.1 c3
        refine a_aload_n dX10_write_36 rfl ?_
        refine a_getR dX10_write_37 fF_RX10_51 rfl rfl ?_
        refine a_iconst dX10_write_40 (v := nI 2) (by decide) ?_
        refine a_aload_n dX10_write_41 rfl ?_
        refine a_getI dX10_write_42 fF_RX10_164 rfl rfl ?_
        refine a_imul dX10_write_45 ?_
        refine a_iload_n dX10_write_46 rfl ?_
        obtain ⟨e4, k⟩ := k
        refine a_iast dX10_write_47 rfl e4 ?_
        refine a_aload_n dX10_write_48 rfl ?_
        refine a_getR dX10_write_49 fF_RX10_51 rfl rfl ?_
        refine a_iconst dX10_write_52 (v := nI 2) (by decide) ?_
        refine a_aload_n dX10_write_53 rfl ?_
        refine a_getI dX10_write_54 fF_RX10_164 rfl rfl ?_
        refine a_imul dX10_write_57 ?_
        refine a_iconst dX10_write_58 (v := nI 1) (by decide) ?_
        refine a_iadd dX10_write_59 ?_
        refine a_iload_n dX10_write_60 rfl ?_
        obtain ⟨e5, k⟩ := k
        refine a_iast dX10_write_61 rfl e5 ?_
        refine a_aload_n dX10_write_62 rfl ?_
        refine a_dup dX10_write_63 rfl ?_
        refine a_getI dX10_write_64 fF_RX10_164 rfl rfl ?_
        refine a_iconst dX10_write_67 (v := nI 1) (by decide) ?_
        refine a_iadd dX10_write_68 ?_
        refine a_put dX10_write_69 fF_RX10_164 rfl rfl rfl rfl ?_
        refine a_aload_n dX10_write_72 rfl ?_
        refine a_getI dX10_write_73 fF_RX10_164 rfl rfl ?_
        exact a_iret dX10_write_76 rfl k
      · replace k := k.2 c3
        refine a_ldc dX10_write_33 (v := (-1000000004 : Int32)) kK_RX10_80 ?_
        exact a_iret dX10_write_35 rfl k
    · replace k := k.2 c2
      refine a_aload_n dX10_write_13 rfl ?_
      refine a_iload_n dX10_write_14 rfl ?_
      exact a_callV1 dX10_write_15 (dh_Y_up cY_RX10_189 (by decide)) rfl rfl (Nat.le_of_ble_eq_true rfl) k
set_option maxRecDepth 100000 in
theorem w_X10_write_18 {G : dh_G} {x1 x2 s0 : Int32} {h : dh_H} {Q : Option Value → dh_H → Prop} (k : ((¬ s0 = 0) → ((¬ (h 61 33) = (nI 15)) → (vp_in ((nI 2) * (h 61 33)) 30) ∧ (vp_in (((nI 2) * (h 61 33)) + (nI 1)) 30) ∧ Q (some (.int ((h 61 33) + (nI 1)))) (dh_s (dh_s (dh_s h 74 ((nI 2) * (h 61 33)).toNatClampNeg x1) 74 (((nI 2) * (h 61 33)) + (nI 1)).toNatClampNeg x2) 61 33 ((h 61 33) + (nI 1)))) ∧ (((h 61 33) = (nI 15)) → Q (some (.int ((-1000000004 : Int32)))) h)) ∧ ((s0 = 0) → Q (some (.int ((-1000000001 : Int32)))) h)) : dh_J G mX10_write 18 [some (.ref 61), some (.int (x1)), some (.int (x2))] [.int (s0)] h Q := by
  refine a_if_ne 24 dX10_write_18 (by decide) (fun c1 => ?_) (fun c1 => ?_)
  · replace k := k.1 c1
    refine a_aload_n dX10_write_24 rfl ?_
    refine a_getI dX10_write_25 fF_RX10_164 rfl rfl ?_
    refine a_bipush dX10_write_28 (v := nI 15) (by decide) ?_
    refine a_icmp_ne 36 dX10_write_30 (by decide) (fun c2 => ?_) (fun c2 => ?_)
    · replace k := k.1 c2
      refine a_aload_n dX10_write_36 rfl ?_
      refine a_getR dX10_write_37 fF_RX10_51 rfl rfl ?_
      refine a_iconst dX10_write_40 (v := nI 2) (by decide) ?_
      refine a_aload_n dX10_write_41 rfl ?_
      refine a_getI dX10_write_42 fF_RX10_164 rfl rfl ?_
      refine a_imul dX10_write_45 ?_
      refine a_iload_n dX10_write_46 rfl ?_
      obtain ⟨e3, k⟩ := k
      refine a_iast dX10_write_47 rfl e3 ?_
      refine a_aload_n dX10_write_48 rfl ?_
      refine a_getR dX10_write_49 fF_RX10_51 rfl rfl ?_
      refine a_iconst dX10_write_52 (v := nI 2) (by decide) ?_
      refine a_aload_n dX10_write_53 rfl ?_
      refine a_getI dX10_write_54 fF_RX10_164 rfl rfl ?_
      refine a_imul dX10_write_57 ?_
      refine a_iconst dX10_write_58 (v := nI 1) (by decide) ?_
      refine a_iadd dX10_write_59 ?_
      refine a_iload_n dX10_write_60 rfl ?_
      obtain ⟨e4, k⟩ := k
      refine a_iast dX10_write_61 rfl e4 ?_
      refine a_aload_n dX10_write_62 rfl ?_
      refine a_dup dX10_write_63 rfl ?_
      refine a_getI dX10_write_64 fF_RX10_164 rfl rfl ?_
      refine a_iconst dX10_write_67 (v := nI 1) (by decide) ?_
      refine a_iadd dX10_write_68 ?_
      refine a_put dX10_write_69 fF_RX10_164 rfl rfl rfl rfl ?_
      refine a_aload_n dX10_write_72 rfl ?_
      refine a_getI dX10_write_73 fF_RX10_164 rfl rfl ?_
      exact a_iret dX10_write_76 rfl k
    · replace k := k.2 c2
      refine a_ldc dX10_write_33 (v := (-1000000004 : Int32)) kK_RX10_80 ?_
      exact a_iret dX10_write_35 rfl k
  · replace k := k.2 c1
    refine a_ldc dX10_write_21 (v := (-1000000001 : Int32)) kK_RX10_192 ?_
    exact a_iret dX10_write_23 rfl k
set_option maxRecDepth 100000 in
theorem w_X10_tear_0 {G : dh_G} {h : dh_H} {Q : Option Value → dh_H → Prop} (k : Q (some (.int ((h 61 31) + (h 61 33)))) (dh_s (dh_s h 61 31 (nI 0)) 61 33 (nI 0))) : dh_J G mX10_tear 0 [some (.ref 61), none] [] h Q := by
  refine a_aload_n dX10_tear_0 rfl ?_
  refine a_getI dX10_tear_1 fF_RX10_161 rfl rfl ?_
  refine a_aload_n dX10_tear_4 rfl ?_
  refine a_getI dX10_tear_5 fF_RX10_164 rfl rfl ?_
  refine a_iadd dX10_tear_8 ?_
  refine a_istore_n dX10_tear_9 (by decide) rfl ?_
  refine a_aload_n dX10_tear_10 rfl ?_
  refine a_iconst dX10_tear_11 (v := nI 0) (by decide) ?_
  refine a_put dX10_tear_12 fF_RX10_161 rfl rfl rfl rfl ?_
  refine a_aload_n dX10_tear_15 rfl ?_
  refine a_iconst dX10_tear_16 (v := nI 0) (by decide) ?_
  refine a_put dX10_tear_17 fF_RX10_164 rfl rfl rfl rfl ?_
  refine a_iload_n dX10_tear_20 rfl ?_
  exact a_iret dX10_tear_21 rfl k
theorem e_X10_tear {G : dh_G} {h : dh_H} {Q : Option Value → dh_H → Prop} (k : Q (some (.int ((h 61 31) + (h 61 33)))) (dh_s (dh_s h 61 31 (nI 0)) 61 33 (nI 0))) : dh_C G mX10_tear [.ref 61] h Q := dh_C_of [some (.ref 61), none] (by decide) (Nat.le_of_ble_eq_true rfl) rfl (w_X10_tear_0 k)
set_option maxRecDepth 100000 in
theorem w_X10_judge_0 {G : dh_G} {h : dh_H} {Q : Option Value → dh_H → Prop} (k : dh_J G mX10_judge 2 [some (.ref 61), some (.int (nI 0))] [] h Q) : dh_J G mX10_judge 0 [some (.ref 61), none] [] h Q := by
  refine a_iconst dX10_judge_0 (v := nI 0) (by decide) ?_
  refine a_istore_n dX10_judge_1 (by decide) rfl ?_
  exact k
theorem e_X10_judge {G : dh_G} {h : dh_H} {Q : Option Value → dh_H → Prop} (k : dh_J G mX10_judge 2 [some (.ref 61), some (.int (nI 0))] [] h Q) : dh_C G mX10_judge [.ref 61] h Q := dh_C_of [some (.ref 61), none] (by decide) (Nat.le_of_ble_eq_true rfl) rfl (w_X10_judge_0 k)
set_option maxRecDepth 100000 in
theorem w_X10_judge_2 {G : dh_G} {x1 : Int32} {h : dh_H} {Q : Option Value → dh_H → Prop} (k : (((h 61 33) ≤ x1) → Q (some (.int ((-1 : Int32)))) h) ∧ ((¬ (h 61 33) ≤ x1) → (vp_in ((nI 2) * x1) 30) ∧ dh_C G mX10_holderOf [.ref 61, .int (h 74 ((nI 2) * x1).toNatClampNeg)] h (fun v h1 => dh_J G mX10_judge 22 [some (.ref 61), some (.int (x1))] (v.toList ++ []) h1 Q))) : dh_J G mX10_judge 2 [some (.ref 61), some (.int (x1))] [] h Q := by
  refine a_iload_n dX10_judge_2 rfl ?_
  refine a_aload_n dX10_judge_3 rfl ?_
  refine a_getI dX10_judge_4 fF_RX10_164 rfl rfl ?_
  refine a_icmp_ge 43 dX10_judge_7 (by decide) (fun c1 => ?_) (fun c1 => ?_)
  · replace k := k.1 c1
    refine a_iconst dX10_judge_43 (v := (-1 : Int32)) (by decide) ?_
    exact a_iret dX10_judge_44 rfl k
  · replace k := k.2 c1
    refine a_aload_n dX10_judge_10 rfl ?_
    refine a_aload_n dX10_judge_11 rfl ?_
    refine a_getR dX10_judge_12 fF_RX10_51 rfl rfl ?_
    refine a_iconst dX10_judge_15 (v := nI 2) (by decide) ?_
    refine a_iload_n dX10_judge_16 rfl ?_
    refine a_imul dX10_judge_17 ?_
    obtain ⟨e2, k⟩ := k
    refine a_iald dX10_judge_18 rfl e2 ?_
    exact a_callV1 dX10_judge_19 (dh_Y_up cY_RX10_196 (by decide)) rfl rfl (Nat.le_of_ble_eq_true rfl) k
set_option maxRecDepth 100000 in
theorem w_X10_judge_22 {G : dh_G} {x1 s0 : Int32} {h : dh_H} {Q : Option Value → dh_H → Prop} (k : (vp_in (((nI 2) * x1) + (nI 1)) 30) ∧ ((s0 = (h 74 (((nI 2) * x1) + (nI 1)).toNatClampNeg)) → dh_J G mX10_judge 2 [some (.ref 61), some (.int (x1 + (nI 1)))] [] h Q) ∧ ((¬ s0 = (h 74 (((nI 2) * x1) + (nI 1)).toNatClampNeg)) → Q (some (.int (x1))) h)) : dh_J G mX10_judge 22 [some (.ref 61), some (.int (x1))] [.int (s0)] h Q := by
  refine a_aload_n dX10_judge_22 rfl ?_
  refine a_getR dX10_judge_23 fF_RX10_51 rfl rfl ?_
  refine a_iconst dX10_judge_26 (v := nI 2) (by decide) ?_
  refine a_iload_n dX10_judge_27 rfl ?_
  refine a_imul dX10_judge_28 ?_
  refine a_iconst dX10_judge_29 (v := nI 1) (by decide) ?_
  refine a_iadd dX10_judge_30 ?_
  obtain ⟨e1, k⟩ := k
  refine a_iald dX10_judge_31 rfl e1 ?_
  refine a_icmp_eq 37 dX10_judge_32 (by decide) (fun c2 => ?_) (fun c2 => ?_)
  · replace k := k.1 c2
    refine a_iinc dX10_judge_37 (v := x1 + (nI 1)) rfl (by rfl) (by decide) rfl ?_
    refine a_goto 2 dX10_judge_40 (by decide) ?_
    exact k
  · replace k := k.2 c2
    refine a_iload_n dX10_judge_35 rfl ?_
    exact a_iret dX10_judge_36 rfl k
set_option maxRecDepth 100000 in
theorem w_X10_seed_0 {G : dh_G} {x1 : Int32} {h : dh_H} {Q : Option Value → dh_H → Prop} (k : ((0 ≤ x1) → Q (some (.int (h 61 30))) (dh_s h 61 30 x1)) ∧ ((¬ 0 ≤ x1) → Q (some (.int ((-1000000002 : Int32)))) h)) : dh_J G mX10_seed 0 [some (.ref 61), some (.int (x1)), none] [] h Q := by
  refine a_iload_n dX10_seed_0 rfl ?_
  refine a_if_ge 7 dX10_seed_1 (by decide) (fun c1 => ?_) (fun c1 => ?_)
  · replace k := k.1 c1
    refine a_aload_n dX10_seed_7 rfl ?_
    refine a_getI dX10_seed_8 fF_RX10_223 rfl rfl ?_
    refine a_istore_n dX10_seed_11 (by decide) rfl ?_
    refine a_aload_n dX10_seed_12 rfl ?_
    refine a_iload_n dX10_seed_13 rfl ?_
    refine a_put dX10_seed_14 fF_RX10_223 rfl rfl rfl rfl ?_
    refine a_iload_n dX10_seed_17 rfl ?_
    exact a_iret dX10_seed_18 rfl k
  · replace k := k.2 c1
    refine a_ldc dX10_seed_4 (v := (-1000000002 : Int32)) kK_RX10_76 ?_
    exact a_iret dX10_seed_6 rfl k
theorem e_X10_seed {G : dh_G} {x1 : Int32} {h : dh_H} {Q : Option Value → dh_H → Prop} (k : ((0 ≤ x1) → Q (some (.int (h 61 30))) (dh_s h 61 30 x1)) ∧ ((¬ 0 ≤ x1) → Q (some (.int ((-1000000002 : Int32)))) h)) : dh_C G mX10_seed [.ref 61, .int (x1)] h Q := dh_C_of [some (.ref 61), some (.int (x1)), none] (by decide) (Nat.le_of_ble_eq_true rfl) rfl (w_X10_seed_0 k)
set_option maxRecDepth 100000 in
theorem w_X10_keep_0 {G : dh_G} {x1 : Int32} {h : dh_H} {Q : Option Value → dh_H → Prop} (k : dh_C G mX10_in [.int (x1), .int (nI 0), .int (nI 1)] h (fun v h1 => dh_J G mX10_keep 6 [some (.ref 61), some (.int (x1))] (v.toList ++ []) h1 Q)) : dh_J G mX10_keep 0 [some (.ref 61), some (.int (x1))] [] h Q := by
  refine a_iload_n dX10_keep_0 rfl ?_
  refine a_iconst dX10_keep_1 (v := nI 0) (by decide) ?_
  refine a_iconst dX10_keep_2 (v := nI 1) (by decide) ?_
  exact a_callS3 dX10_keep_3 (dh_Y_up cY_RX10_69 (by decide)) (Nat.le_of_ble_eq_true rfl) k
theorem e_X10_keep {G : dh_G} {x1 : Int32} {h : dh_H} {Q : Option Value → dh_H → Prop} (k : dh_C G mX10_in [.int (x1), .int (nI 0), .int (nI 1)] h (fun v h1 => dh_J G mX10_keep 6 [some (.ref 61), some (.int (x1))] (v.toList ++ []) h1 Q)) : dh_C G mX10_keep [.ref 61, .int (x1)] h Q := dh_C_of [some (.ref 61), some (.int (x1))] (by decide) (Nat.le_of_ble_eq_true rfl) rfl (w_X10_keep_0 k)
set_option maxRecDepth 100000 in
theorem w_X10_keep_6 {G : dh_G} {x1 s0 : Int32} {h : dh_H} {Q : Option Value → dh_H → Prop} (k : ((¬ s0 = 0) → dh_C G mX10_bring [.ref 68, .int (nI 0), .ref 70, .int ((nI 32) * x1), .int (nI 32)] h (fun v h1 => dh_J G mX10_keep 30 [some (.ref 61), some (.int (x1))] (v.toList ++ []) h1 Q)) ∧ ((s0 = 0) → Q (some (.int ((-1000000001 : Int32)))) h)) : dh_J G mX10_keep 6 [some (.ref 61), some (.int (x1))] [.int (s0)] h Q := by
  refine a_if_ne 12 dX10_keep_6 (by decide) (fun c1 => ?_) (fun c1 => ?_)
  · replace k := k.1 c1
    refine a_aload_n dX10_keep_12 rfl ?_
    refine a_getR dX10_keep_13 fF_RX10_32 rfl rfl ?_
    refine a_iconst dX10_keep_16 (v := nI 0) (by decide) ?_
    refine a_aload_n dX10_keep_17 rfl ?_
    refine a_getR dX10_keep_18 fF_RX10_38 rfl rfl ?_
    refine a_bipush dX10_keep_21 (v := nI 32) (by decide) ?_
    refine a_iload_n dX10_keep_23 rfl ?_
    refine a_imul dX10_keep_24 ?_
    refine a_bipush dX10_keep_25 (v := nI 32) (by decide) ?_
    exact a_callS5 dX10_keep_27 (dh_Y_up cY_RX10_157 (by decide)) (Nat.le_of_ble_eq_true rfl) k
  · replace k := k.2 c1
    refine a_ldc dX10_keep_9 (v := (-1000000001 : Int32)) kK_RX10_192 ?_
    exact a_iret dX10_keep_11 rfl k
set_option maxRecDepth 100000 in
theorem w_X10_keep_30 {G : dh_G} {x1 : Int32} {h : dh_H} {Q : Option Value → dh_H → Prop} (k : (vp_in x1 2) ∧ (vp_in x1 2) ∧ Q (some (.int (nI 1))) (dh_s (dh_s (dh_s h 71 x1.toNatClampNeg (h 61 30)) 72 x1.toNatClampNeg (vp_nar .boolean (nI 1))) 61 26 (nI 0))) : dh_J G mX10_keep 30 [some (.ref 61), some (.int (x1))] [] h Q := by
  refine a_aload_n dX10_keep_30 rfl ?_
  refine a_getR dX10_keep_31 fF_RX10_41 rfl rfl ?_
  refine a_iload_n dX10_keep_34 rfl ?_
  refine a_aload_n dX10_keep_35 rfl ?_
  refine a_getI dX10_keep_36 fF_RX10_223 rfl rfl ?_
  obtain ⟨e1, k⟩ := k
  refine a_iast dX10_keep_39 rfl e1 ?_
  refine a_aload_n dX10_keep_40 rfl ?_
  refine a_getR dX10_keep_41 fF_RX10_44 rfl rfl ?_
  refine a_iload_n dX10_keep_44 rfl ?_
  refine a_iconst dX10_keep_45 (v := nI 1) (by decide) ?_
  obtain ⟨e2, k⟩ := k
  refine a_zast dX10_keep_46 rfl e2 ?_
  refine a_aload_n dX10_keep_47 rfl ?_
  refine a_iconst dX10_keep_48 (v := nI 0) (by decide) ?_
  refine a_put dX10_keep_49 fF_RX10_167 rfl rfl rfl rfl ?_
  refine a_iconst dX10_keep_52 (v := nI 1) (by decide) ?_
  exact a_iret dX10_keep_53 rfl k
set_option maxRecDepth 100000 in
theorem w_X10_goBack_0 {G : dh_G} {x1 : Int32} {h : dh_H} {Q : Option Value → dh_H → Prop} (k : dh_C G mX10_in [.int (x1), .int (nI 0), .int (nI 1)] h (fun v h1 => dh_J G mX10_goBack 6 [some (.ref 61), some (.int (x1))] (v.toList ++ []) h1 Q)) : dh_J G mX10_goBack 0 [some (.ref 61), some (.int (x1))] [] h Q := by
  refine a_iload_n dX10_goBack_0 rfl ?_
  refine a_iconst dX10_goBack_1 (v := nI 0) (by decide) ?_
  refine a_iconst dX10_goBack_2 (v := nI 1) (by decide) ?_
  exact a_callS3 dX10_goBack_3 (dh_Y_up cY_RX10_69 (by decide)) (Nat.le_of_ble_eq_true rfl) k
theorem e_X10_goBack {G : dh_G} {x1 : Int32} {h : dh_H} {Q : Option Value → dh_H → Prop} (k : dh_C G mX10_in [.int (x1), .int (nI 0), .int (nI 1)] h (fun v h1 => dh_J G mX10_goBack 6 [some (.ref 61), some (.int (x1))] (v.toList ++ []) h1 Q)) : dh_C G mX10_goBack [.ref 61, .int (x1)] h Q := dh_C_of [some (.ref 61), some (.int (x1))] (by decide) (Nat.le_of_ble_eq_true rfl) rfl (w_X10_goBack_0 k)
set_option maxRecDepth 100000 in
theorem w_X10_goBack_6 {G : dh_G} {x1 s0 : Int32} {h : dh_H} {Q : Option Value → dh_H → Prop} (k : ((¬ s0 = 0) → (vp_in x1 2) ∧ ((¬ (h 72 x1.toNatClampNeg) = 0) → dh_C G mX10_bring [.ref 70, .int ((nI 32) * x1), .ref 68, .int (nI 0), .int (nI 32)] h (fun v h1 => dh_J G mX10_goBack 42 [some (.ref 61), some (.int (x1))] (v.toList ++ []) h1 Q)) ∧ (((h 72 x1.toNatClampNeg) = 0) → Q (some (.int ((-1000000003 : Int32)))) h)) ∧ ((s0 = 0) → Q (some (.int ((-1000000001 : Int32)))) h)) : dh_J G mX10_goBack 6 [some (.ref 61), some (.int (x1))] [.int (s0)] h Q := by
  refine a_if_ne 12 dX10_goBack_6 (by decide) (fun c1 => ?_) (fun c1 => ?_)
  · replace k := k.1 c1
    refine a_aload_n dX10_goBack_12 rfl ?_
    refine a_getR dX10_goBack_13 fF_RX10_44 rfl rfl ?_
    refine a_iload_n dX10_goBack_16 rfl ?_
    obtain ⟨e2, k⟩ := k
    refine a_zald dX10_goBack_17 rfl e2 ?_
    refine a_if_ne 24 dX10_goBack_18 (by decide) (fun c3 => ?_) (fun c3 => ?_)
    · replace k := k.1 c3
      refine a_aload_n dX10_goBack_24 rfl ?_
      refine a_getR dX10_goBack_25 fF_RX10_38 rfl rfl ?_
      refine a_bipush dX10_goBack_28 (v := nI 32) (by decide) ?_
      refine a_iload_n dX10_goBack_30 rfl ?_
      refine a_imul dX10_goBack_31 ?_
      refine a_aload_n dX10_goBack_32 rfl ?_
      refine a_getR dX10_goBack_33 fF_RX10_32 rfl rfl ?_
      refine a_iconst dX10_goBack_36 (v := nI 0) (by decide) ?_
      refine a_bipush dX10_goBack_37 (v := nI 32) (by decide) ?_
      exact a_callS5 dX10_goBack_39 (dh_Y_up cY_RX10_157 (by decide)) (Nat.le_of_ble_eq_true rfl) k
    · replace k := k.2 c3
      refine a_ldc dX10_goBack_21 (v := (-1000000003 : Int32)) kK_RX10_203 ?_
      exact a_iret dX10_goBack_23 rfl k
  · replace k := k.2 c1
    refine a_ldc dX10_goBack_9 (v := (-1000000001 : Int32)) kK_RX10_192 ?_
    exact a_iret dX10_goBack_11 rfl k
set_option maxRecDepth 100000 in
theorem w_X10_goBack_42 {G : dh_G} {x1 : Int32} {h : dh_H} {Q : Option Value → dh_H → Prop} (k : (vp_in x1 2) ∧ Q (some (.int (nI 1))) (dh_s (dh_s h 61 30 (h 71 x1.toNatClampNeg)) 61 26 (nI 0))) : dh_J G mX10_goBack 42 [some (.ref 61), some (.int (x1))] [] h Q := by
  refine a_aload_n dX10_goBack_42 rfl ?_
  refine a_aload_n dX10_goBack_43 rfl ?_
  refine a_getR dX10_goBack_44 fF_RX10_41 rfl rfl ?_
  refine a_iload_n dX10_goBack_47 rfl ?_
  obtain ⟨e1, k⟩ := k
  refine a_iald dX10_goBack_48 rfl e1 ?_
  refine a_put dX10_goBack_49 fF_RX10_223 rfl rfl rfl rfl ?_
  refine a_aload_n dX10_goBack_52 rfl ?_
  refine a_iconst dX10_goBack_53 (v := nI 0) (by decide) ?_
  refine a_put dX10_goBack_54 fF_RX10_167 rfl rfl rfl rfl ?_
  refine a_iconst dX10_goBack_57 (v := nI 1) (by decide) ?_
  exact a_iret dX10_goBack_58 rfl k
