set_option maxRecDepth 100000 in
theorem w_X3_prepare_0 {G : dh_G} {x3 : Int32} {h : dh_H} {Q : Option Value → dh_H → Prop} (k : dh_J G mX3_prepare 19 [some (.ref 27), some (.ref 3), some (.ref 19), some (.int (x3)), some (.int (nI 0)), none] [] (dh_s (dh_s h 27 0 (h 3 3)) 27 1 (h 3 4)) Q) : dh_J G mX3_prepare 0 [some (.ref 27), some (.ref 3), some (.ref 19), some (.int (x3)), none, none] [] h Q := by
  refine a_aload_n dX3_prepare_0 rfl ?_
  refine a_aload_n dX3_prepare_1 rfl ?_
  refine a_getI dX3_prepare_2 fF_RX3_20 rfl rfl ?_
  refine a_put dX3_prepare_5 fF_RX3_26 rfl rfl rfl rfl ?_
  refine a_aload_n dX3_prepare_8 rfl ?_
  refine a_aload_n dX3_prepare_9 rfl ?_
  refine a_getI dX3_prepare_10 fF_RX3_27 rfl rfl ?_
  refine a_put dX3_prepare_13 fF_RX3_30 rfl rfl rfl rfl ?_
  refine a_iconst dX3_prepare_16 (v := nI 0) (by decide) ?_
  refine a_istore dX3_prepare_17 (by decide) rfl ?_
  exact k
theorem e_X3_prepare {G : dh_G} {x3 : Int32} {h : dh_H} {Q : Option Value → dh_H → Prop} (k : dh_J G mX3_prepare 19 [some (.ref 27), some (.ref 3), some (.ref 19), some (.int (x3)), some (.int (nI 0)), none] [] (dh_s (dh_s h 27 0 (h 3 3)) 27 1 (h 3 4)) Q) : dh_C G mX3_prepare [.ref 27, .ref 3, .ref 19, .int (x3)] h Q := dh_C_of [some (.ref 27), some (.ref 3), some (.ref 19), some (.int (x3)), none, none] (by decide) (Nat.le_of_ble_eq_true rfl) rfl (w_X3_prepare_0 k)
set_option maxRecDepth 100000 in
theorem w_X3_prepare_19 {G : dh_G} {x3 x4 : Int32} {h : dh_H} {Q : Option Value → dh_H → Prop} (k : (((h 27 0) ≤ x4) → dh_C G mX3_fill [.ref 27] h (fun v h1 => dh_J G mX3_prepare 104 [none, none, none, none, none, none] (v.toList ++ []) h1 Q)) ∧ ((¬ (h 27 0) ≤ x4) → (vp_in x4 6) ∧ dh_J G mX3_prepare 39 [some (.ref 27), some (.ref 3), some (.ref 19), some (.int (x3)), some (.int (x4)), some (.int (nI 0))] [] (dh_s h 28 x4.toNatClampNeg (nI 0)) Q)) : dh_J G mX3_prepare 19 [some (.ref 27), some (.ref 3), some (.ref 19), some (.int (x3)), some (.int (x4)), none] [] h Q := by
  refine a_iload dX3_prepare_19 rfl ?_
  refine a_aload_n dX3_prepare_21 rfl ?_
  refine a_getI dX3_prepare_22 fF_RX3_26 rfl rfl ?_
  refine a_icmp_ge 100 dX3_prepare_25 (by decide) (fun c1 => ?_) (fun c1 => ?_)
  · replace k := k.1 c1
    refine a_aload_n dX3_prepare_100 rfl ?_
    refine dh_drop 0 ?_
    refine dh_drop 1 ?_
    refine dh_drop 2 ?_
    refine dh_drop 3 ?_
    refine dh_drop 4 ?_
    exact a_callV0 dX3_prepare_101 (dh_Y_up cY_RX3_40 (by decide)) rfl rfl (Nat.le_of_ble_eq_true rfl) k
  · replace k := k.2 c1
    refine a_aload_n dX3_prepare_28 rfl ?_
    refine a_getR dX3_prepare_29 fF_RX3_9 rfl rfl ?_
    refine a_iload dX3_prepare_32 rfl ?_
    refine a_iconst dX3_prepare_34 (v := nI 0) (by decide) ?_
    obtain ⟨e2, k⟩ := k
    refine a_iast dX3_prepare_35 rfl e2 ?_
    refine a_iconst dX3_prepare_36 (v := nI 0) (by decide) ?_
    refine a_istore dX3_prepare_37 (by decide) rfl ?_
    exact k
set_option maxRecDepth 100000 in
theorem w_X3_prepare_39 {G : dh_G} {x3 x4 x5 : Int32} {h : dh_H} {Q : Option Value → dh_H → Prop} (k : (((h 27 1) ≤ x5) → dh_J G mX3_prepare 19 [some (.ref 27), some (.ref 3), some (.ref 19), some (.int (x3)), some (.int (x4 + (nI 1))), none] [] h Q) ∧ ((¬ (h 27 1) ≤ x5) → dh_C G mX5_takes [.ref 3, .int (x4), .int (x5)] h (fun v h1 => dh_J G mX3_prepare 56 [some (.ref 27), some (.ref 3), some (.ref 19), some (.int (x3)), some (.int (x4)), some (.int (x5))] (v.toList ++ []) h1 Q))) : dh_J G mX3_prepare 39 [some (.ref 27), some (.ref 3), some (.ref 19), some (.int (x3)), some (.int (x4)), some (.int (x5))] [] h Q := by
  refine a_iload dX3_prepare_39 rfl ?_
  refine a_aload_n dX3_prepare_41 rfl ?_
  refine a_getI dX3_prepare_42 fF_RX3_30 rfl rfl ?_
  refine a_icmp_ge 94 dX3_prepare_45 (by decide) (fun c1 => ?_) (fun c1 => ?_)
  · replace k := k.1 c1
    refine a_iinc dX3_prepare_94 (v := x4 + (nI 1)) rfl (by rfl) (by decide) rfl ?_
    refine a_goto 19 dX3_prepare_97 (by decide) ?_
    refine dh_drop 5 ?_
    exact k
  · replace k := k.2 c1
    refine a_aload_n dX3_prepare_48 rfl ?_
    refine a_iload dX3_prepare_49 rfl ?_
    refine a_iload dX3_prepare_51 rfl ?_
    exact a_callV2 dX3_prepare_53 (dh_Y_up cY_RX3_31 (by decide)) rfl rfl (Nat.le_of_ble_eq_true rfl) k
set_option maxRecDepth 100000 in
theorem w_X3_prepare_56 {G : dh_G} {x3 x4 x5 s0 : Int32} {h : dh_H} {Q : Option Value → dh_H → Prop} (k : ((s0 = 0) → dh_J G mX3_prepare 39 [some (.ref 27), some (.ref 3), some (.ref 19), some (.int (x3)), some (.int (x4)), some (.int (x5 + (nI 1)))] [] h Q) ∧ ((¬ s0 = 0) → ((x3 = 0) → (vp_in x4 6) ∧ (vp_in x4 6) ∧ dh_J G mX3_prepare 39 [some (.ref 27), some (.ref 3), some (.ref 19), some (.int (x3)), some (.int (x4)), some (.int (x5 + (nI 1)))] [] (dh_s h 28 x4.toNatClampNeg ((h 28 x4.toNatClampNeg) ||| ((nI 1) <<< (x5 &&& 31)))) Q) ∧ ((¬ x3 = 0) → dh_C G mX8_infects [.ref 19, .int (x5), .int (x4)] h (fun v h1 => dh_J G mX3_prepare 71 [some (.ref 27), some (.ref 3), some (.ref 19), some (.int (x3)), some (.int (x4)), some (.int (x5))] (v.toList ++ []) h1 Q)))) : dh_J G mX3_prepare 56 [some (.ref 27), some (.ref 3), some (.ref 19), some (.int (x3)), some (.int (x4)), some (.int (x5))] [.int (s0)] h Q := by
  refine a_if_eq 88 dX3_prepare_56 (by decide) (fun c1 => ?_) (fun c1 => ?_)
  · replace k := k.1 c1
    refine a_iinc dX3_prepare_88 (v := x5 + (nI 1)) rfl (by rfl) (by decide) rfl ?_
    refine a_goto 39 dX3_prepare_91 (by decide) ?_
    exact k
  · replace k := k.2 c1
    refine a_iload_n dX3_prepare_59 rfl ?_
    refine a_if_eq 74 dX3_prepare_60 (by decide) (fun c2 => ?_) (fun c2 => ?_)
    · replace k := k.1 c2
      refine a_aload_n dX3_prepare_74 rfl ?_
      refine a_getR dX3_prepare_75 fF_RX3_9 rfl rfl ?_
      refine a_iload dX3_prepare_78 rfl ?_
      refine a_dup2 dX3_prepare_80 rfl rfl ?_
      obtain ⟨e3, k⟩ := k
      refine a_iald dX3_prepare_81 rfl e3 ?_
      refine a_iconst dX3_prepare_82 (v := nI 1) (by decide) ?_
      refine a_iload dX3_prepare_83 rfl ?_
      refine a_ishl dX3_prepare_85 ?_
      refine a_ior dX3_prepare_86 ?_
      obtain ⟨e4, k⟩ := k
      refine a_iast dX3_prepare_87 rfl e4 ?_
      refine a_iinc dX3_prepare_88 (v := x5 + (nI 1)) rfl (by rfl) (by decide) rfl ?_
      refine a_goto 39 dX3_prepare_91 (by decide) ?_
      exact k
    · replace k := k.2 c2
      refine a_aload_n dX3_prepare_63 rfl ?_
      refine a_iload dX3_prepare_64 rfl ?_
      refine a_iload dX3_prepare_66 rfl ?_
      exact a_callV2 dX3_prepare_68 (dh_Y_up cY_RX3_35 (by decide)) rfl rfl (Nat.le_of_ble_eq_true rfl) k
set_option maxRecDepth 100000 in
theorem w_X3_prepare_71 {G : dh_G} {x3 x4 x5 s0 : Int32} {h : dh_H} {Q : Option Value → dh_H → Prop} (k : ((¬ s0 = 0) → dh_J G mX3_prepare 39 [some (.ref 27), some (.ref 3), some (.ref 19), some (.int (x3)), some (.int (x4)), some (.int (x5 + (nI 1)))] [] h Q) ∧ ((s0 = 0) → (vp_in x4 6) ∧ (vp_in x4 6) ∧ dh_J G mX3_prepare 39 [some (.ref 27), some (.ref 3), some (.ref 19), some (.int (x3)), some (.int (x4)), some (.int (x5 + (nI 1)))] [] (dh_s h 28 x4.toNatClampNeg ((h 28 x4.toNatClampNeg) ||| ((nI 1) <<< (x5 &&& 31)))) Q)) : dh_J G mX3_prepare 71 [some (.ref 27), some (.ref 3), some (.ref 19), some (.int (x3)), some (.int (x4)), some (.int (x5))] [.int (s0)] h Q := by
  refine a_if_ne 88 dX3_prepare_71 (by decide) (fun c1 => ?_) (fun c1 => ?_)
  · replace k := k.1 c1
    refine a_iinc dX3_prepare_88 (v := x5 + (nI 1)) rfl (by rfl) (by decide) rfl ?_
    refine a_goto 39 dX3_prepare_91 (by decide) ?_
    exact k
  · replace k := k.2 c1
    refine a_aload_n dX3_prepare_74 rfl ?_
    refine a_getR dX3_prepare_75 fF_RX3_9 rfl rfl ?_
    refine a_iload dX3_prepare_78 rfl ?_
    refine a_dup2 dX3_prepare_80 rfl rfl ?_
    obtain ⟨e2, k⟩ := k
    refine a_iald dX3_prepare_81 rfl e2 ?_
    refine a_iconst dX3_prepare_82 (v := nI 1) (by decide) ?_
    refine a_iload dX3_prepare_83 rfl ?_
    refine a_ishl dX3_prepare_85 ?_
    refine a_ior dX3_prepare_86 ?_
    obtain ⟨e3, k⟩ := k
    refine a_iast dX3_prepare_87 rfl e3 ?_
    refine a_iinc dX3_prepare_88 (v := x5 + (nI 1)) rfl (by rfl) (by decide) rfl ?_
    refine a_goto 39 dX3_prepare_91 (by decide) ?_
    exact k
set_option maxRecDepth 100000 in
theorem w_X3_prepare_104 {G : dh_G} {h : dh_H} {Q : Option Value → dh_H → Prop} (k : Q none h) : dh_J G mX3_prepare 104 [none, none, none, none, none, none] [] h Q := by
  exact a_vret dX3_prepare_104 rfl k
set_option maxRecDepth 100000 in
theorem w_X3_fill_0 {G : dh_G} {h : dh_H} {Q : Option Value → dh_H → Prop} (k : dh_J G mX3_fill 2 [some (.ref 27), some (.int (nI 0)), none] [] h Q) : dh_J G mX3_fill 0 [some (.ref 27), none, none] [] h Q := by
  refine a_iconst dX3_fill_0 (v := nI 0) (by decide) ?_
  refine a_istore_n dX3_fill_1 (by decide) rfl ?_
  exact k
theorem e_X3_fill {G : dh_G} {h : dh_H} {Q : Option Value → dh_H → Prop} (k : dh_J G mX3_fill 2 [some (.ref 27), some (.int (nI 0)), none] [] h Q) : dh_C G mX3_fill [.ref 27] h Q := dh_C_of [some (.ref 27), none, none] (by decide) (Nat.le_of_ble_eq_true rfl) rfl (w_X3_fill_0 k)
set_option maxRecDepth 100000 in
theorem w_X3_fill_2 {G : dh_G} {x1 : Int32} {h : dh_H} {Q : Option Value → dh_H → Prop} (k : (((nI 64) ≤ x1) → dh_J G mX3_fill 33 [some (.ref 27), some (.int ((h 27 0) - (nI 1))), none] [] h Q) ∧ ((¬ (nI 64) ≤ x1) → (vp_in (h 27 0) 7) ∧ ∃ r2, ([30, 31, 32, 33, 34, 35, 36][(h 27 0).toNatClampNeg]? = some r2) ∧ (dh_LAY[r2]? = some (.inr (0, 64, []))) ∧ (vp_in x1 64) ∧ dh_J G mX3_fill 2 [some (.ref 27), some (.int (x1 + (nI 1))), none] [] (dh_s h r2 x1.toNatClampNeg (nI 0)) Q)) : dh_J G mX3_fill 2 [some (.ref 27), some (.int (x1)), none] [] h Q := by
  refine a_iload_n dX3_fill_2 rfl ?_
  refine a_bipush dX3_fill_3 (v := nI 64) (by decide) ?_
  refine a_icmp_ge 26 dX3_fill_5 (by decide) (fun c1 => ?_) (fun c1 => ?_)
  · replace k := k.1 c1
    refine a_aload_n dX3_fill_26 rfl ?_
    refine a_getI dX3_fill_27 fF_RX3_26 rfl rfl ?_
    refine a_iconst dX3_fill_30 (v := nI 1) (by decide) ?_
    refine a_isub dX3_fill_31 ?_
    refine a_istore_n dX3_fill_32 (by decide) rfl ?_
    exact k
  · replace k := k.2 c1
    refine a_aload_n dX3_fill_8 rfl ?_
    refine a_getR dX3_fill_9 fF_RX3_17 rfl rfl ?_
    refine a_aload_n dX3_fill_12 rfl ?_
    refine a_getI dX3_fill_13 fF_RX3_26 rfl rfl ?_
    obtain ⟨e3, r2, e4, e5, k⟩ := k
    refine a_aald dX3_fill_16 rfl (Or.inr rfl) e3 e4 ?_
    refine a_iload_n dX3_fill_17 rfl ?_
    refine a_iconst dX3_fill_18 (v := nI 0) (by decide) ?_
    obtain ⟨e6, k⟩ := k
    refine a_iast dX3_fill_19 e5 e6 ?_
    refine a_iinc dX3_fill_20 (v := x1 + (nI 1)) rfl (by rfl) (by decide) rfl ?_
    refine a_goto 2 dX3_fill_23 (by decide) ?_
    exact k
set_option maxRecDepth 100000 in
theorem w_X3_fill_33 {G : dh_G} {x1 : Int32} {h : dh_H} {Q : Option Value → dh_H → Prop} (k : ((x1 < 0) → Q none h) ∧ ((¬ x1 < 0) → dh_J G mX3_fill 39 [some (.ref 27), some (.int (x1)), some (.int (nI 0))] [] h Q)) : dh_J G mX3_fill 33 [some (.ref 27), some (.int (x1)), none] [] h Q := by
  refine a_iload_n dX3_fill_33 rfl ?_
  refine a_if_lt 71 dX3_fill_34 (by decide) (fun c1 => ?_) (fun c1 => ?_)
  · replace k := k.1 c1
    exact a_vret dX3_fill_71 rfl k
  · replace k := k.2 c1
    refine a_iconst dX3_fill_37 (v := nI 0) (by decide) ?_
    refine a_istore_n dX3_fill_38 (by decide) rfl ?_
    exact k
set_option maxRecDepth 100000 in
theorem w_X3_fill_39 {G : dh_G} {x1 x2 : Int32} {h : dh_H} {Q : Option Value → dh_H → Prop} (k : (((nI 64) ≤ x2) → dh_J G mX3_fill 33 [some (.ref 27), some (.int (x1 + (-1 : Int32))), none] [] h Q) ∧ ((¬ (nI 64) ≤ x2) → (vp_in x1 7) ∧ ∃ r2, ([30, 31, 32, 33, 34, 35, 36][x1.toNatClampNeg]? = some r2) ∧ (dh_LAY[r2]? = some (.inr (0, 64, []))) ∧ dh_C G mX3_bestFrom [.ref 27, .int (x1), .int (x2)] h (fun v h1 => dh_J G mX3_fill 58 [some (.ref 27), some (.int (x1)), some (.int (x2))] (v.toList ++ [.int (x2), .ref r2]) h1 Q))) : dh_J G mX3_fill 39 [some (.ref 27), some (.int (x1)), some (.int (x2))] [] h Q := by
  refine a_iload_n dX3_fill_39 rfl ?_
  refine a_bipush dX3_fill_40 (v := nI 64) (by decide) ?_
  refine a_icmp_ge 65 dX3_fill_42 (by decide) (fun c1 => ?_) (fun c1 => ?_)
  · replace k := k.1 c1
    refine a_iinc dX3_fill_65 (v := x1 + (-1 : Int32)) rfl (by rfl) (by decide) rfl ?_
    refine a_goto 33 dX3_fill_68 (by decide) ?_
    refine dh_drop 2 ?_
    exact k
  · replace k := k.2 c1
    refine a_aload_n dX3_fill_45 rfl ?_
    refine a_getR dX3_fill_46 fF_RX3_17 rfl rfl ?_
    refine a_iload_n dX3_fill_49 rfl ?_
    obtain ⟨e3, r2, e4, e5, k⟩ := k
    refine a_aald dX3_fill_50 rfl (Or.inr rfl) e3 e4 ?_
    refine a_iload_n dX3_fill_51 rfl ?_
    refine a_aload_n dX3_fill_52 rfl ?_
    refine a_iload_n dX3_fill_53 rfl ?_
    refine a_iload_n dX3_fill_54 rfl ?_
    exact a_callV2 dX3_fill_55 (dh_Y_up cY_RX3_43 (by decide)) rfl rfl (Nat.le_of_ble_eq_true rfl) k
set_option maxRecDepth 100000 in
theorem w_X3_fill_58 {G : dh_G} {x1 x2 s1 s2 : Int32} {z0 : Nat} (ez0 : dh_LAY[z0]? = some (.inr (0, 64, []))) {h : dh_H} {Q : Option Value → dh_H → Prop} (k : (vp_in s1 64) ∧ dh_J G mX3_fill 39 [some (.ref 27), some (.int (x1)), some (.int (x2 + (nI 1)))] [] (dh_s h z0 s1.toNatClampNeg s2) Q) : dh_J G mX3_fill 58 [some (.ref 27), some (.int (x1)), some (.int (x2))] [.int (s2), .int (s1), .ref z0] h Q := by
  obtain ⟨e1, k⟩ := k
  refine a_iast dX3_fill_58 ez0 e1 ?_
  refine a_iinc dX3_fill_59 (v := x2 + (nI 1)) rfl (by rfl) (by decide) rfl ?_
  refine a_goto 39 dX3_fill_62 (by decide) ?_
  exact k
set_option maxRecDepth 100000 in
theorem w_X3_bestFrom_0 {G : dh_G} {x1 x2 : Int32} {h : dh_H} {Q : Option Value → dh_H → Prop} (k : (vp_in (x1 + (nI 1)) 7) ∧ ∃ r1, ([30, 31, 32, 33, 34, 35, 36][(x1 + (nI 1)).toNatClampNeg]? = some r1) ∧ (dh_LAY[r1]? = some (.inr (0, 64, []))) ∧ (vp_in x2 64) ∧ dh_J G mX3_bestFrom 14 [some (.ref 27), some (.int (x1)), some (.int (x2)), some (.int (h r1 x2.toNatClampNeg)), some (.int (nI 0))] [] h Q) : dh_J G mX3_bestFrom 0 [some (.ref 27), some (.int (x1)), some (.int (x2)), none, none] [] h Q := by
  refine a_aload_n dX3_bestFrom_0 rfl ?_
  refine a_getR dX3_bestFrom_1 fF_RX3_17 rfl rfl ?_
  refine a_iload_n dX3_bestFrom_4 rfl ?_
  refine a_iconst dX3_bestFrom_5 (v := nI 1) (by decide) ?_
  refine a_iadd dX3_bestFrom_6 ?_
  obtain ⟨e2, r1, e3, e4, k⟩ := k
  refine a_aald dX3_bestFrom_7 rfl (Or.inr rfl) e2 e3 ?_
  refine a_iload_n dX3_bestFrom_8 rfl ?_
  obtain ⟨e5, k⟩ := k
  refine a_iald dX3_bestFrom_9 e4 e5 ?_
  refine a_istore_n dX3_bestFrom_10 (by decide) rfl ?_
  refine a_iconst dX3_bestFrom_11 (v := nI 0) (by decide) ?_
  refine a_istore dX3_bestFrom_12 (by decide) rfl ?_
  exact k
theorem e_X3_bestFrom {G : dh_G} {x1 x2 : Int32} {h : dh_H} {Q : Option Value → dh_H → Prop} (k : (vp_in (x1 + (nI 1)) 7) ∧ ∃ r1, ([30, 31, 32, 33, 34, 35, 36][(x1 + (nI 1)).toNatClampNeg]? = some r1) ∧ (dh_LAY[r1]? = some (.inr (0, 64, []))) ∧ (vp_in x2 64) ∧ dh_J G mX3_bestFrom 14 [some (.ref 27), some (.int (x1)), some (.int (x2)), some (.int (h r1 x2.toNatClampNeg)), some (.int (nI 0))] [] h Q) : dh_C G mX3_bestFrom [.ref 27, .int (x1), .int (x2)] h Q := dh_C_of [some (.ref 27), some (.int (x1)), some (.int (x2)), none, none] (by decide) (Nat.le_of_ble_eq_true rfl) rfl (w_X3_bestFrom_0 k)
set_option maxRecDepth 100000 in
theorem w_X3_bestFrom_14 {G : dh_G} {x1 x2 x3 x4 : Int32} {h : dh_H} {Q : Option Value → dh_H → Prop} (k : (((h 27 1) ≤ x4) → Q (some (.int (x3))) h) ∧ ((¬ (h 27 1) ≤ x4) → (vp_in x1 6) ∧ dh_C G mX9_isIn [.int ((h 28 x1.toNatClampNeg) &&& (x2 ^^^ (-1 : Int32))), .int (x4)] h (fun v h1 => dh_J G mX3_bestFrom 38 [some (.ref 27), some (.int (x1)), some (.int (x2)), some (.int (x3)), some (.int (x4))] (v.toList ++ []) h1 Q))) : dh_J G mX3_bestFrom 14 [some (.ref 27), some (.int (x1)), some (.int (x2)), some (.int (x3)), some (.int (x4))] [] h Q := by
  refine a_iload dX3_bestFrom_14 rfl ?_
  refine a_aload_n dX3_bestFrom_16 rfl ?_
  refine a_getI dX3_bestFrom_17 fF_RX3_30 rfl rfl ?_
  refine a_icmp_ge 69 dX3_bestFrom_20 (by decide) (fun c1 => ?_) (fun c1 => ?_)
  · replace k := k.1 c1
    refine a_iload_n dX3_bestFrom_69 rfl ?_
    exact a_iret dX3_bestFrom_70 rfl k
  · replace k := k.2 c1
    refine a_aload_n dX3_bestFrom_23 rfl ?_
    refine a_getR dX3_bestFrom_24 fF_RX3_9 rfl rfl ?_
    refine a_iload_n dX3_bestFrom_27 rfl ?_
    obtain ⟨e2, k⟩ := k
    refine a_iald dX3_bestFrom_28 rfl e2 ?_
    refine a_iload_n dX3_bestFrom_29 rfl ?_
    refine a_iconst dX3_bestFrom_30 (v := (-1 : Int32)) (by decide) ?_
    refine a_ixor dX3_bestFrom_31 ?_
    refine a_iand dX3_bestFrom_32 ?_
    refine a_iload dX3_bestFrom_33 rfl ?_
    exact a_callS2 dX3_bestFrom_35 (dh_Y_up cY_RX3_47 (by decide)) (Nat.le_of_ble_eq_true rfl) k
set_option maxRecDepth 100000 in
theorem w_X3_bestFrom_38 {G : dh_G} {x1 x2 x3 x4 s0 : Int32} {h : dh_H} {Q : Option Value → dh_H → Prop} (k : ((s0 = 0) → dh_J G mX3_bestFrom 14 [some (.ref 27), some (.int (x1)), some (.int (x2)), some (.int (x3)), some (.int (x4 + (nI 1)))] [] h Q) ∧ ((¬ s0 = 0) → (vp_in (x1 + (nI 1)) 7) ∧ ∃ r2, ([30, 31, 32, 33, 34, 35, 36][(x1 + (nI 1)).toNatClampNeg]? = some r2) ∧ (dh_LAY[r2]? = some (.inr (0, 64, []))) ∧ (vp_in (x2 ||| ((nI 1) <<< (x4 &&& 31))) 64) ∧ dh_J G mX3_bestFrom 14 [some (.ref 27), some (.int (x1)), some (.int (x2)), some (.int ((if x3 < (nI 1) + (h r2 (x2 ||| ((nI 1) <<< (x4 &&& 31))).toNatClampNeg) then (nI 1) + (h r2 (x2 ||| ((nI 1) <<< (x4 &&& 31))).toNatClampNeg) else x3))), some (.int (x4 + (nI 1)))] [] h Q)) : dh_J G mX3_bestFrom 38 [some (.ref 27), some (.int (x1)), some (.int (x2)), some (.int (x3)), some (.int (x4))] [.int (s0)] h Q := by
  refine a_if_eq 63 dX3_bestFrom_38 (by decide) (fun c1 => ?_) (fun c1 => ?_)
  · replace k := k.1 c1
    refine a_iinc dX3_bestFrom_63 (v := x4 + (nI 1)) rfl (by rfl) (by decide) rfl ?_
    refine a_goto 14 dX3_bestFrom_66 (by decide) ?_
    exact k
  · replace k := k.2 c1
    refine a_iload_n dX3_bestFrom_41 rfl ?_
    refine a_iconst dX3_bestFrom_42 (v := nI 1) (by decide) ?_
    refine a_aload_n dX3_bestFrom_43 rfl ?_
    refine a_getR dX3_bestFrom_44 fF_RX3_17 rfl rfl ?_
    refine a_iload_n dX3_bestFrom_47 rfl ?_
    refine a_iconst dX3_bestFrom_48 (v := nI 1) (by decide) ?_
    refine a_iadd dX3_bestFrom_49 ?_
    obtain ⟨e3, r2, e4, e5, k⟩ := k
    refine a_aald dX3_bestFrom_50 rfl (Or.inr rfl) e3 e4 ?_
    refine a_iload_n dX3_bestFrom_51 rfl ?_
    refine a_iconst dX3_bestFrom_52 (v := nI 1) (by decide) ?_
    refine a_iload dX3_bestFrom_53 rfl ?_
    refine a_ishl dX3_bestFrom_55 ?_
    refine a_ior dX3_bestFrom_56 ?_
    obtain ⟨e6, k⟩ := k
    refine a_iald dX3_bestFrom_57 e5 e6 ?_
    refine a_iadd dX3_bestFrom_58 ?_
    refine a_max dX3_bestFrom_59 lM_RX3_50 wMmax (by decide) (Nat.le_of_ble_eq_true rfl) ?_
    refine a_istore_n dX3_bestFrom_62 (by decide) rfl ?_
    refine a_iinc dX3_bestFrom_63 (v := x4 + (nI 1)) rfl (by rfl) (by decide) rfl ?_
    refine a_goto 14 dX3_bestFrom_66 (by decide) ?_
    exact k
set_option maxRecDepth 100000 in
theorem w_X3_most_0 {G : dh_G} {x1 : Int32} {h : dh_H} {Q : Option Value → dh_H → Prop} (k : ((x1 < 0) → Q (some (.int (nI 0))) h) ∧ ((¬ x1 < 0) → (((nI 64) ≤ x1) → Q (some (.int (nI 0))) h) ∧ ((¬ (nI 64) ≤ x1) → (vp_in (nI 0) 7) ∧ ∃ r3, ([30, 31, 32, 33, 34, 35, 36][(nI 0).toNatClampNeg]? = some r3) ∧ (dh_LAY[r3]? = some (.inr (0, 64, []))) ∧ (vp_in x1 64) ∧ Q (some (.int (h r3 x1.toNatClampNeg))) h))) : dh_J G mX3_most 0 [some (.ref 27), some (.int (x1))] [] h Q := by
  refine a_iload_n dX3_most_0 rfl ?_
  refine a_if_lt 21 dX3_most_1 (by decide) (fun c1 => ?_) (fun c1 => ?_)
  · replace k := k.1 c1
    refine a_iconst dX3_most_21 (v := nI 0) (by decide) ?_
    exact a_iret dX3_most_22 rfl k
  · replace k := k.2 c1
    refine a_iload_n dX3_most_4 rfl ?_
    refine a_bipush dX3_most_5 (v := nI 64) (by decide) ?_
    refine a_icmp_ge 21 dX3_most_7 (by decide) (fun c2 => ?_) (fun c2 => ?_)
    · replace k := k.1 c2
      refine a_iconst dX3_most_21 (v := nI 0) (by decide) ?_
      exact a_iret dX3_most_22 rfl k
    · replace k := k.2 c2
      refine a_aload_n dX3_most_10 rfl ?_
      refine a_getR dX3_most_11 fF_RX3_17 rfl rfl ?_
      refine a_iconst dX3_most_14 (v := nI 0) (by decide) ?_
      obtain ⟨e4, r3, e5, e6, k⟩ := k
      refine a_aald dX3_most_15 rfl (Or.inr rfl) e4 e5 ?_
      refine a_iload_n dX3_most_16 rfl ?_
      obtain ⟨e7, k⟩ := k
      refine a_iald dX3_most_17 e6 e7 ?_
      refine a_goto 22 dX3_most_18 (by decide) ?_
      exact a_iret dX3_most_22 rfl k
theorem e_X3_most {G : dh_G} {x1 : Int32} {h : dh_H} {Q : Option Value → dh_H → Prop} (k : ((x1 < 0) → Q (some (.int (nI 0))) h) ∧ ((¬ x1 < 0) → (((nI 64) ≤ x1) → Q (some (.int (nI 0))) h) ∧ ((¬ (nI 64) ≤ x1) → (vp_in (nI 0) 7) ∧ ∃ r3, ([30, 31, 32, 33, 34, 35, 36][(nI 0).toNatClampNeg]? = some r3) ∧ (dh_LAY[r3]? = some (.inr (0, 64, []))) ∧ (vp_in x1 64) ∧ Q (some (.int (h r3 x1.toNatClampNeg))) h))) : dh_C G mX3_most [.ref 27, .int (x1)] h Q := dh_C_of [some (.ref 27), some (.int (x1))] (by decide) (Nat.le_of_ble_eq_true rfl) rfl (w_X3_most_0 k)
set_option maxRecDepth 100000 in
theorem w_X3_dummyFor_0 {G : dh_G} {x1 : Int32} {h : dh_H} {Q : Option Value → dh_H → Prop} (k : dh_J G mX3_dummyFor 4 [some (.ref 27), some (.int (x1)), some (.int (nI 0)), some (.int (nI 0)), none] [] h Q) : dh_J G mX3_dummyFor 0 [some (.ref 27), some (.int (x1)), none, none, none] [] h Q := by
  refine a_iconst dX3_dummyFor_0 (v := nI 0) (by decide) ?_
  refine a_istore_n dX3_dummyFor_1 (by decide) rfl ?_
  refine a_iconst dX3_dummyFor_2 (v := nI 0) (by decide) ?_
  refine a_istore_n dX3_dummyFor_3 (by decide) rfl ?_
  exact k
theorem e_X3_dummyFor {G : dh_G} {x1 : Int32} {h : dh_H} {Q : Option Value → dh_H → Prop} (k : dh_J G mX3_dummyFor 4 [some (.ref 27), some (.int (x1)), some (.int (nI 0)), some (.int (nI 0)), none] [] h Q) : dh_C G mX3_dummyFor [.ref 27, .int (x1)] h Q := dh_C_of [some (.ref 27), some (.int (x1)), none, none, none] (by decide) (Nat.le_of_ble_eq_true rfl) rfl (w_X3_dummyFor_0 k)
set_option maxRecDepth 100000 in
theorem w_X3_dummyFor_4 {G : dh_G} {x1 x2 x3 : Int32} {h : dh_H} {Q : Option Value → dh_H → Prop} (k : (((h 27 0) ≤ x3) → Q (some (.int ((-1 : Int32)))) h) ∧ ((¬ (h 27 0) ≤ x3) → dh_C G mX3_firstBest [.ref 27, .int (x3), .int (x2)] h (fun v h1 => dh_J G mX3_dummyFor 18 [some (.ref 27), some (.int (x1)), some (.int (x2)), some (.int (x3)), none] (v.toList ++ []) h1 Q))) : dh_J G mX3_dummyFor 4 [some (.ref 27), some (.int (x1)), some (.int (x2)), some (.int (x3)), none] [] h Q := by
  refine a_iload_n dX3_dummyFor_4 rfl ?_
  refine a_aload_n dX3_dummyFor_5 rfl ?_
  refine a_getI dX3_dummyFor_6 fF_RX3_26 rfl rfl ?_
  refine a_icmp_ge 47 dX3_dummyFor_9 (by decide) (fun c1 => ?_) (fun c1 => ?_)
  · replace k := k.1 c1
    refine a_iconst dX3_dummyFor_47 (v := (-1 : Int32)) (by decide) ?_
    exact a_iret dX3_dummyFor_48 rfl k
  · replace k := k.2 c1
    refine a_aload_n dX3_dummyFor_12 rfl ?_
    refine a_iload_n dX3_dummyFor_13 rfl ?_
    refine a_iload_n dX3_dummyFor_14 rfl ?_
    exact a_callV2 dX3_dummyFor_15 (dh_Y_up cY_RX3_55 (by decide)) rfl rfl (Nat.le_of_ble_eq_true rfl) k
set_option maxRecDepth 100000 in
theorem w_X3_dummyFor_18 {G : dh_G} {x1 x2 x3 s0 : Int32} {h : dh_H} {Q : Option Value → dh_H → Prop} (k : ((¬ x3 = x1) → ((s0 = (-1 : Int32)) → dh_J G mX3_dummyFor 4 [some (.ref 27), some (.int (x1)), some (.int (x2)), some (.int (x3 + (nI 1))), none] [] h Q) ∧ ((¬ s0 = (-1 : Int32)) → dh_J G mX3_dummyFor 4 [some (.ref 27), some (.int (x1)), some (.int (x2 ||| ((nI 1) <<< (s0 &&& 31)))), some (.int (x3 + (nI 1))), none] [] h Q)) ∧ ((x3 = x1) → Q (some (.int (s0))) h)) : dh_J G mX3_dummyFor 18 [some (.ref 27), some (.int (x1)), some (.int (x2)), some (.int (x3)), none] [.int (s0)] h Q := by
  refine a_istore dX3_dummyFor_18 (by decide) rfl ?_
  refine a_iload_n dX3_dummyFor_20 rfl ?_
  refine a_iload_n dX3_dummyFor_21 rfl ?_
  refine a_icmp_ne 28 dX3_dummyFor_22 (by decide) (fun c1 => ?_) (fun c1 => ?_)
  · replace k := k.1 c1
    refine a_iload dX3_dummyFor_28 rfl ?_
    refine a_iconst dX3_dummyFor_30 (v := (-1 : Int32)) (by decide) ?_
    refine a_icmp_eq 41 dX3_dummyFor_31 (by decide) (fun c2 => ?_) (fun c2 => ?_)
    · replace k := k.1 c2
      refine a_iinc dX3_dummyFor_41 (v := x3 + (nI 1)) rfl (by rfl) (by decide) rfl ?_
      refine a_goto 4 dX3_dummyFor_44 (by decide) ?_
      refine dh_drop 4 ?_
      exact k
    · replace k := k.2 c2
      refine a_iload_n dX3_dummyFor_34 rfl ?_
      refine a_iconst dX3_dummyFor_35 (v := nI 1) (by decide) ?_
      refine a_iload dX3_dummyFor_36 rfl ?_
      refine a_ishl dX3_dummyFor_38 ?_
      refine a_ior dX3_dummyFor_39 ?_
      refine a_istore_n dX3_dummyFor_40 (by decide) rfl ?_
      refine a_iinc dX3_dummyFor_41 (v := x3 + (nI 1)) rfl (by rfl) (by decide) rfl ?_
      refine a_goto 4 dX3_dummyFor_44 (by decide) ?_
      refine dh_drop 4 ?_
      exact k
  · replace k := k.2 c1
    refine a_iload dX3_dummyFor_25 rfl ?_
    exact a_iret dX3_dummyFor_27 rfl k
set_option maxRecDepth 100000 in
theorem w_X3_firstBest_0 {G : dh_G} {x1 x2 : Int32} {h : dh_H} {Q : Option Value → dh_H → Prop} (k : dh_J G mX3_firstBest 2 [some (.ref 27), some (.int (x1)), some (.int (x2)), some (.int (nI 0))] [] h Q) : dh_J G mX3_firstBest 0 [some (.ref 27), some (.int (x1)), some (.int (x2)), none] [] h Q := by
  refine a_iconst dX3_firstBest_0 (v := nI 0) (by decide) ?_
  refine a_istore_n dX3_firstBest_1 (by decide) rfl ?_
  exact k
theorem e_X3_firstBest {G : dh_G} {x1 x2 : Int32} {h : dh_H} {Q : Option Value → dh_H → Prop} (k : dh_J G mX3_firstBest 2 [some (.ref 27), some (.int (x1)), some (.int (x2)), some (.int (nI 0))] [] h Q) : dh_C G mX3_firstBest [.ref 27, .int (x1), .int (x2)] h Q := dh_C_of [some (.ref 27), some (.int (x1)), some (.int (x2)), none] (by decide) (Nat.le_of_ble_eq_true rfl) rfl (w_X3_firstBest_0 k)
set_option maxRecDepth 100000 in
theorem w_X3_firstBest_2 {G : dh_G} {x1 x2 x3 : Int32} {h : dh_H} {Q : Option Value → dh_H → Prop} (k : (((h 27 1) ≤ x3) → Q (some (.int ((-1 : Int32)))) h) ∧ ((¬ (h 27 1) ≤ x3) → (vp_in x1 6) ∧ dh_C G mX9_isIn [.int ((h 28 x1.toNatClampNeg) &&& (x2 ^^^ (-1 : Int32))), .int (x3)] h (fun v h1 => dh_J G mX3_firstBest 24 [some (.ref 27), some (.int (x1)), some (.int (x2)), some (.int (x3))] (v.toList ++ []) h1 Q))) : dh_J G mX3_firstBest 2 [some (.ref 27), some (.int (x1)), some (.int (x2)), some (.int (x3))] [] h Q := by
  refine a_iload_n dX3_firstBest_2 rfl ?_
  refine a_aload_n dX3_firstBest_3 rfl ?_
  refine a_getI dX3_firstBest_4 fF_RX3_30 rfl rfl ?_
  refine a_icmp_ge 62 dX3_firstBest_7 (by decide) (fun c1 => ?_) (fun c1 => ?_)
  · replace k := k.1 c1
    refine a_iconst dX3_firstBest_62 (v := (-1 : Int32)) (by decide) ?_
    exact a_iret dX3_firstBest_63 rfl k
  · replace k := k.2 c1
    refine a_aload_n dX3_firstBest_10 rfl ?_
    refine a_getR dX3_firstBest_11 fF_RX3_9 rfl rfl ?_
    refine a_iload_n dX3_firstBest_14 rfl ?_
    obtain ⟨e2, k⟩ := k
    refine a_iald dX3_firstBest_15 rfl e2 ?_
    refine a_iload_n dX3_firstBest_16 rfl ?_
    refine a_iconst dX3_firstBest_17 (v := (-1 : Int32)) (by decide) ?_
    refine a_ixor dX3_firstBest_18 ?_
    refine a_iand dX3_firstBest_19 ?_
    refine a_iload_n dX3_firstBest_20 rfl ?_
    exact a_callS2 dX3_firstBest_21 (dh_Y_up cY_RX3_47 (by decide)) (Nat.le_of_ble_eq_true rfl) k
set_option maxRecDepth 100000 in
theorem w_X3_firstBest_24 {G : dh_G} {x1 x2 x3 s0 : Int32} {h : dh_H} {Q : Option Value → dh_H → Prop} (k : ((s0 = 0) → dh_J G mX3_firstBest 2 [some (.ref 27), some (.int (x1)), some (.int (x2)), some (.int (x3 + (nI 1)))] [] h Q) ∧ ((¬ s0 = 0) → (vp_in (x1 + (nI 1)) 7) ∧ ∃ r2, ([30, 31, 32, 33, 34, 35, 36][(x1 + (nI 1)).toNatClampNeg]? = some r2) ∧ (dh_LAY[r2]? = some (.inr (0, 64, []))) ∧ (vp_in (x2 ||| ((nI 1) <<< (x3 &&& 31))) 64) ∧ (vp_in x1 7) ∧ ∃ r7, ([30, 31, 32, 33, 34, 35, 36][x1.toNatClampNeg]? = some r7) ∧ (dh_LAY[r7]? = some (.inr (0, 64, []))) ∧ (vp_in x2 64) ∧ ((¬ ((nI 1) + (h r2 (x2 ||| ((nI 1) <<< (x3 &&& 31))).toNatClampNeg)) = (h r7 x2.toNatClampNeg)) → dh_J G mX3_firstBest 2 [some (.ref 27), some (.int (x1)), some (.int (x2)), some (.int (x3 + (nI 1)))] [] h Q) ∧ ((((nI 1) + (h r2 (x2 ||| ((nI 1) <<< (x3 &&& 31))).toNatClampNeg)) = (h r7 x2.toNatClampNeg)) → Q (some (.int (x3))) h))) : dh_J G mX3_firstBest 24 [some (.ref 27), some (.int (x1)), some (.int (x2)), some (.int (x3))] [.int (s0)] h Q := by
  refine a_if_eq 56 dX3_firstBest_24 (by decide) (fun c1 => ?_) (fun c1 => ?_)
  · replace k := k.1 c1
    refine a_iinc dX3_firstBest_56 (v := x3 + (nI 1)) rfl (by rfl) (by decide) rfl ?_
    refine a_goto 2 dX3_firstBest_59 (by decide) ?_
    exact k
  · replace k := k.2 c1
    refine a_iconst dX3_firstBest_27 (v := nI 1) (by decide) ?_
    refine a_aload_n dX3_firstBest_28 rfl ?_
    refine a_getR dX3_firstBest_29 fF_RX3_17 rfl rfl ?_
    refine a_iload_n dX3_firstBest_32 rfl ?_
    refine a_iconst dX3_firstBest_33 (v := nI 1) (by decide) ?_
    refine a_iadd dX3_firstBest_34 ?_
    obtain ⟨e3, r2, e4, e5, k⟩ := k
    refine a_aald dX3_firstBest_35 rfl (Or.inr rfl) e3 e4 ?_
    refine a_iload_n dX3_firstBest_36 rfl ?_
    refine a_iconst dX3_firstBest_37 (v := nI 1) (by decide) ?_
    refine a_iload_n dX3_firstBest_38 rfl ?_
    refine a_ishl dX3_firstBest_39 ?_
    refine a_ior dX3_firstBest_40 ?_
    obtain ⟨e6, k⟩ := k
    refine a_iald dX3_firstBest_41 e5 e6 ?_
    refine a_iadd dX3_firstBest_42 ?_
    refine a_aload_n dX3_firstBest_43 rfl ?_
    refine a_getR dX3_firstBest_44 fF_RX3_17 rfl rfl ?_
    refine a_iload_n dX3_firstBest_47 rfl ?_
    obtain ⟨e8, r7, e9, e10, k⟩ := k
    refine a_aald dX3_firstBest_48 rfl (Or.inr rfl) e8 e9 ?_
    refine a_iload_n dX3_firstBest_49 rfl ?_
    obtain ⟨e11, k⟩ := k
    refine a_iald dX3_firstBest_50 e10 e11 ?_
    refine a_icmp_ne 56 dX3_firstBest_51 (by decide) (fun c12 => ?_) (fun c12 => ?_)
    · replace k := k.1 c12
      refine a_iinc dX3_firstBest_56 (v := x3 + (nI 1)) rfl (by rfl) (by decide) rfl ?_
      refine a_goto 2 dX3_firstBest_59 (by decide) ?_
      exact k
    · replace k := k.2 c12
      refine a_iload_n dX3_firstBest_54 rfl ?_
      exact a_iret dX3_firstBest_55 rfl k
