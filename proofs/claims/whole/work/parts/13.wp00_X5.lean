theorem dh_b1 {x : Int32} (h : x = 0 ∨ x = 1) : narrow .boolean (.int x) = .int x := by rcases h with rfl | rfl <;> decide
theorem dh_b2 {x : Int32} (h : x = 0 ∨ x = 1) : fits .boolean (.int x) = true := by rcases h with rfl | rfl <;> decide
set_option maxRecDepth 100000 in
theorem w_X5_reset_0 {G : dh_G} {h : dh_H} {Q : Option Value → dh_H → Prop} (k : Q none (dh_s (dh_s (dh_s (dh_s (dh_s h 11 0 (nI 0)) 11 1 (nI 0)) 11 2 (nI 0)) 11 3 (nI 0)) 11 4 (nI 0))) : dh_J G mX5_reset 0 [some (.ref 11)] [] h Q := by
  refine a_aload_n dX5_reset_0 rfl ?_
  refine a_iconst dX5_reset_1 (v := nI 0) (by decide) ?_
  refine a_put dX5_reset_2 fF_RX5_33 rfl rfl (by decide) (by decide) ?_
  refine a_aload_n dX5_reset_5 rfl ?_
  refine a_iconst dX5_reset_6 (v := nI 0) (by decide) ?_
  refine a_put dX5_reset_7 fF_RX5_37 rfl rfl rfl rfl ?_
  refine a_aload_n dX5_reset_10 rfl ?_
  refine a_iconst dX5_reset_11 (v := nI 0) (by decide) ?_
  refine a_put dX5_reset_12 fF_RX5_41 rfl rfl rfl rfl ?_
  refine a_aload_n dX5_reset_15 rfl ?_
  refine a_iconst dX5_reset_16 (v := nI 0) (by decide) ?_
  refine a_put dX5_reset_17 fF_RX5_44 rfl rfl rfl rfl ?_
  refine a_aload_n dX5_reset_20 rfl ?_
  refine a_iconst dX5_reset_21 (v := nI 0) (by decide) ?_
  refine a_put dX5_reset_22 fF_RX5_47 rfl rfl rfl rfl ?_
  exact a_vret dX5_reset_25 rfl k
theorem e_X5_reset {G : dh_G} {h : dh_H} {Q : Option Value → dh_H → Prop} (k : Q none (dh_s (dh_s (dh_s (dh_s (dh_s h 11 0 (nI 0)) 11 1 (nI 0)) 11 2 (nI 0)) 11 3 (nI 0)) 11 4 (nI 0))) : dh_C G mX5_reset [.ref 11] h Q := dh_C_of [some (.ref 11)] (by decide) (Nat.le_of_ble_eq_true rfl) rfl (w_X5_reset_0 k)
set_option maxRecDepth 100000 in
theorem w_X5_copyFrom_0 {G : dh_G} {h : dh_H} {Q : Option Value → dh_H → Prop} (k : ((h 11 0) = 0 ∨ (h 11 0) = 1) ∧ dh_C G mX5_copyRow [.ref 12, .ref 4] (dh_s (dh_s (dh_s (dh_s (dh_s h 3 0 (h 11 0)) 3 1 (h 11 1)) 3 2 (h 11 2)) 3 3 (h 11 3)) 3 4 (h 11 4)) (fun v h1 => dh_J G mX5_copyFrom 51 [some (.ref 3), some (.ref 11)] (v.toList ++ []) h1 Q)) : dh_J G mX5_copyFrom 0 [some (.ref 3), some (.ref 11)] [] h Q := by
  refine a_aload_n dX5_copyFrom_0 rfl ?_
  refine a_aload_n dX5_copyFrom_1 rfl ?_
  refine a_getI dX5_copyFrom_2 fF_RX5_33 rfl rfl ?_
  obtain ⟨e1, k⟩ := k
  refine a_put dX5_copyFrom_5 fF_RX5_33 rfl rfl (dh_b1 e1) (dh_b2 e1) ?_
  refine a_aload_n dX5_copyFrom_8 rfl ?_
  refine a_aload_n dX5_copyFrom_9 rfl ?_
  refine a_getI dX5_copyFrom_10 fF_RX5_37 rfl rfl ?_
  refine a_put dX5_copyFrom_13 fF_RX5_37 rfl rfl rfl rfl ?_
  refine a_aload_n dX5_copyFrom_16 rfl ?_
  refine a_aload_n dX5_copyFrom_17 rfl ?_
  refine a_getI dX5_copyFrom_18 fF_RX5_41 rfl rfl ?_
  refine a_put dX5_copyFrom_21 fF_RX5_41 rfl rfl rfl rfl ?_
  refine a_aload_n dX5_copyFrom_24 rfl ?_
  refine a_aload_n dX5_copyFrom_25 rfl ?_
  refine a_getI dX5_copyFrom_26 fF_RX5_44 rfl rfl ?_
  refine a_put dX5_copyFrom_29 fF_RX5_44 rfl rfl rfl rfl ?_
  refine a_aload_n dX5_copyFrom_32 rfl ?_
  refine a_aload_n dX5_copyFrom_33 rfl ?_
  refine a_getI dX5_copyFrom_34 fF_RX5_47 rfl rfl ?_
  refine a_put dX5_copyFrom_37 fF_RX5_47 rfl rfl rfl rfl ?_
  refine a_aload_n dX5_copyFrom_40 rfl ?_
  refine a_getR dX5_copyFrom_41 fF_RX5_9 rfl rfl ?_
  refine a_aload_n dX5_copyFrom_44 rfl ?_
  refine a_getR dX5_copyFrom_45 fF_RX5_9 rfl rfl ?_
  exact a_callS2 dX5_copyFrom_48 (dh_Y_up cY_RX5_50 (by decide)) (Nat.le_of_ble_eq_true rfl) k
theorem e_X5_copyFrom {G : dh_G} {h : dh_H} {Q : Option Value → dh_H → Prop} (k : ((h 11 0) = 0 ∨ (h 11 0) = 1) ∧ dh_C G mX5_copyRow [.ref 12, .ref 4] (dh_s (dh_s (dh_s (dh_s (dh_s h 3 0 (h 11 0)) 3 1 (h 11 1)) 3 2 (h 11 2)) 3 3 (h 11 3)) 3 4 (h 11 4)) (fun v h1 => dh_J G mX5_copyFrom 51 [some (.ref 3), some (.ref 11)] (v.toList ++ []) h1 Q)) : dh_C G mX5_copyFrom [.ref 3, .ref 11] h Q := dh_C_of [some (.ref 3), some (.ref 11)] (by decide) (Nat.le_of_ble_eq_true rfl) rfl (w_X5_copyFrom_0 k)
set_option maxRecDepth 100000 in
theorem w_X5_copyFrom_51 {G : dh_G} {h : dh_H} {Q : Option Value → dh_H → Prop} (k : dh_C G mX5_copyRow [.ref 13, .ref 5] h (fun v h1 => dh_J G mX5_copyFrom 62 [some (.ref 3), some (.ref 11)] (v.toList ++ []) h1 Q)) : dh_J G mX5_copyFrom 51 [some (.ref 3), some (.ref 11)] [] h Q := by
  refine a_aload_n dX5_copyFrom_51 rfl ?_
  refine a_getR dX5_copyFrom_52 fF_RX5_15 rfl rfl ?_
  refine a_aload_n dX5_copyFrom_55 rfl ?_
  refine a_getR dX5_copyFrom_56 fF_RX5_15 rfl rfl ?_
  exact a_callS2 dX5_copyFrom_59 (dh_Y_up cY_RX5_50 (by decide)) (Nat.le_of_ble_eq_true rfl) k
set_option maxRecDepth 100000 in
theorem w_X5_copyFrom_62 {G : dh_G} {h : dh_H} {Q : Option Value → dh_H → Prop} (k : dh_C G mX5_copyRow [.ref 14, .ref 6] h (fun v h1 => dh_J G mX5_copyFrom 73 [some (.ref 3), some (.ref 11)] (v.toList ++ []) h1 Q)) : dh_J G mX5_copyFrom 62 [some (.ref 3), some (.ref 11)] [] h Q := by
  refine a_aload_n dX5_copyFrom_62 rfl ?_
  refine a_getR dX5_copyFrom_63 fF_RX5_18 rfl rfl ?_
  refine a_aload_n dX5_copyFrom_66 rfl ?_
  refine a_getR dX5_copyFrom_67 fF_RX5_18 rfl rfl ?_
  exact a_callS2 dX5_copyFrom_70 (dh_Y_up cY_RX5_50 (by decide)) (Nat.le_of_ble_eq_true rfl) k
set_option maxRecDepth 100000 in
theorem w_X5_copyFrom_73 {G : dh_G} {h : dh_H} {Q : Option Value → dh_H → Prop} (k : dh_C G mX5_copyRow [.ref 15, .ref 7] h (fun v h1 => dh_J G mX5_copyFrom 84 [some (.ref 3), some (.ref 11)] (v.toList ++ []) h1 Q)) : dh_J G mX5_copyFrom 73 [some (.ref 3), some (.ref 11)] [] h Q := by
  refine a_aload_n dX5_copyFrom_73 rfl ?_
  refine a_getR dX5_copyFrom_74 fF_RX5_21 rfl rfl ?_
  refine a_aload_n dX5_copyFrom_77 rfl ?_
  refine a_getR dX5_copyFrom_78 fF_RX5_21 rfl rfl ?_
  exact a_callS2 dX5_copyFrom_81 (dh_Y_up cY_RX5_50 (by decide)) (Nat.le_of_ble_eq_true rfl) k
set_option maxRecDepth 100000 in
theorem w_X5_copyFrom_84 {G : dh_G} {h : dh_H} {Q : Option Value → dh_H → Prop} (k : dh_C G mX5_copyRow [.ref 16, .ref 8] h (fun v h1 => dh_J G mX5_copyFrom 95 [some (.ref 3), some (.ref 11)] (v.toList ++ []) h1 Q)) : dh_J G mX5_copyFrom 84 [some (.ref 3), some (.ref 11)] [] h Q := by
  refine a_aload_n dX5_copyFrom_84 rfl ?_
  refine a_getR dX5_copyFrom_85 fF_RX5_24 rfl rfl ?_
  refine a_aload_n dX5_copyFrom_88 rfl ?_
  refine a_getR dX5_copyFrom_89 fF_RX5_24 rfl rfl ?_
  exact a_callS2 dX5_copyFrom_92 (dh_Y_up cY_RX5_50 (by decide)) (Nat.le_of_ble_eq_true rfl) k
set_option maxRecDepth 100000 in
theorem w_X5_copyFrom_95 {G : dh_G} {h : dh_H} {Q : Option Value → dh_H → Prop} (k : dh_C G mX5_copyRow [.ref 17, .ref 9] h (fun v h1 => dh_J G mX5_copyFrom 106 [some (.ref 3), some (.ref 11)] (v.toList ++ []) h1 Q)) : dh_J G mX5_copyFrom 95 [some (.ref 3), some (.ref 11)] [] h Q := by
  refine a_aload_n dX5_copyFrom_95 rfl ?_
  refine a_getR dX5_copyFrom_96 fF_RX5_27 rfl rfl ?_
  refine a_aload_n dX5_copyFrom_99 rfl ?_
  refine a_getR dX5_copyFrom_100 fF_RX5_27 rfl rfl ?_
  exact a_callS2 dX5_copyFrom_103 (dh_Y_up cY_RX5_50 (by decide)) (Nat.le_of_ble_eq_true rfl) k
set_option maxRecDepth 100000 in
theorem w_X5_copyFrom_106 {G : dh_G} {h : dh_H} {Q : Option Value → dh_H → Prop} (k : dh_C G mX5_copyRow [.ref 18, .ref 10] h (fun v h1 => dh_J G mX5_copyFrom 117 [none, none] (v.toList ++ []) h1 Q)) : dh_J G mX5_copyFrom 106 [some (.ref 3), some (.ref 11)] [] h Q := by
  refine a_aload_n dX5_copyFrom_106 rfl ?_
  refine a_getR dX5_copyFrom_107 fF_RX5_30 rfl rfl ?_
  refine a_aload_n dX5_copyFrom_110 rfl ?_
  refine a_getR dX5_copyFrom_111 fF_RX5_30 rfl rfl ?_
  refine dh_drop 0 ?_
  refine dh_drop 1 ?_
  exact a_callS2 dX5_copyFrom_114 (dh_Y_up cY_RX5_50 (by decide)) (Nat.le_of_ble_eq_true rfl) k
set_option maxRecDepth 100000 in
theorem w_X5_copyFrom_117 {G : dh_G} {h : dh_H} {Q : Option Value → dh_H → Prop} (k : Q none h) : dh_J G mX5_copyFrom 117 [none, none] [] h Q := by
  exact a_vret dX5_copyFrom_117 rfl k
set_option maxRecDepth 100000 in
theorem w_X5_copyRow_4_0 {G : dh_G} {h : dh_H} {Q : Option Value → dh_H → Prop} (k : (¬ nI 0 < 0) ∧ (¬ nI 0 < 0) ∧ (¬ nI 6 < 0) ∧ ((nI 0).toNatClampNeg + (nI 6).toNatClampNeg ≤ 6) ∧ ((nI 0).toNatClampNeg + (nI 6).toNatClampNeg ≤ 6) ∧ Q none (dh_c h 12 4 (nI 0).toNatClampNeg (nI 0).toNatClampNeg (nI 6).toNatClampNeg)) : dh_J G mX5_copyRow 0 [some (.ref 12), some (.ref 4)] [] h Q := by
  refine a_aload_n dX5_copyRow_0 rfl ?_
  refine a_iconst dX5_copyRow_1 (v := nI 0) (by decide) ?_
  refine a_aload_n dX5_copyRow_2 rfl ?_
  refine a_iconst dX5_copyRow_3 (v := nI 0) (by decide) ?_
  refine a_bipush dX5_copyRow_4 (v := nI 6) (by decide) ?_
  obtain ⟨e1, e2, e3, e4, e5, k⟩ := k
  refine a_copy dX5_copyRow_6 lC_RX5_54 wCopy rfl rfl (by decide) (Nat.le_of_ble_eq_true rfl) e1 e2 e3 e4 e5 ?_
  exact a_vret dX5_copyRow_9 rfl k
theorem e_X5_copyRow_4 {G : dh_G} {h : dh_H} {Q : Option Value → dh_H → Prop} (k : (¬ nI 0 < 0) ∧ (¬ nI 0 < 0) ∧ (¬ nI 6 < 0) ∧ ((nI 0).toNatClampNeg + (nI 6).toNatClampNeg ≤ 6) ∧ ((nI 0).toNatClampNeg + (nI 6).toNatClampNeg ≤ 6) ∧ Q none (dh_c h 12 4 (nI 0).toNatClampNeg (nI 0).toNatClampNeg (nI 6).toNatClampNeg)) : dh_C G mX5_copyRow [.ref 12, .ref 4] h Q := dh_C_of [some (.ref 12), some (.ref 4)] (by decide) (Nat.le_of_ble_eq_true rfl) rfl (w_X5_copyRow_4_0 k)
set_option maxRecDepth 100000 in
theorem w_X5_copyRow_5_0 {G : dh_G} {h : dh_H} {Q : Option Value → dh_H → Prop} (k : (¬ nI 0 < 0) ∧ (¬ nI 0 < 0) ∧ (¬ nI 6 < 0) ∧ ((nI 0).toNatClampNeg + (nI 6).toNatClampNeg ≤ 6) ∧ ((nI 0).toNatClampNeg + (nI 6).toNatClampNeg ≤ 6) ∧ Q none (dh_c h 13 5 (nI 0).toNatClampNeg (nI 0).toNatClampNeg (nI 6).toNatClampNeg)) : dh_J G mX5_copyRow 0 [some (.ref 13), some (.ref 5)] [] h Q := by
  refine a_aload_n dX5_copyRow_0 rfl ?_
  refine a_iconst dX5_copyRow_1 (v := nI 0) (by decide) ?_
  refine a_aload_n dX5_copyRow_2 rfl ?_
  refine a_iconst dX5_copyRow_3 (v := nI 0) (by decide) ?_
  refine a_bipush dX5_copyRow_4 (v := nI 6) (by decide) ?_
  obtain ⟨e1, e2, e3, e4, e5, k⟩ := k
  refine a_copy dX5_copyRow_6 lC_RX5_54 wCopy rfl rfl (by decide) (Nat.le_of_ble_eq_true rfl) e1 e2 e3 e4 e5 ?_
  exact a_vret dX5_copyRow_9 rfl k
theorem e_X5_copyRow_5 {G : dh_G} {h : dh_H} {Q : Option Value → dh_H → Prop} (k : (¬ nI 0 < 0) ∧ (¬ nI 0 < 0) ∧ (¬ nI 6 < 0) ∧ ((nI 0).toNatClampNeg + (nI 6).toNatClampNeg ≤ 6) ∧ ((nI 0).toNatClampNeg + (nI 6).toNatClampNeg ≤ 6) ∧ Q none (dh_c h 13 5 (nI 0).toNatClampNeg (nI 0).toNatClampNeg (nI 6).toNatClampNeg)) : dh_C G mX5_copyRow [.ref 13, .ref 5] h Q := dh_C_of [some (.ref 13), some (.ref 5)] (by decide) (Nat.le_of_ble_eq_true rfl) rfl (w_X5_copyRow_5_0 k)
set_option maxRecDepth 100000 in
theorem w_X5_copyRow_6_0 {G : dh_G} {h : dh_H} {Q : Option Value → dh_H → Prop} (k : (¬ nI 0 < 0) ∧ (¬ nI 0 < 0) ∧ (¬ nI 6 < 0) ∧ ((nI 0).toNatClampNeg + (nI 6).toNatClampNeg ≤ 6) ∧ ((nI 0).toNatClampNeg + (nI 6).toNatClampNeg ≤ 6) ∧ Q none (dh_c h 14 6 (nI 0).toNatClampNeg (nI 0).toNatClampNeg (nI 6).toNatClampNeg)) : dh_J G mX5_copyRow 0 [some (.ref 14), some (.ref 6)] [] h Q := by
  refine a_aload_n dX5_copyRow_0 rfl ?_
  refine a_iconst dX5_copyRow_1 (v := nI 0) (by decide) ?_
  refine a_aload_n dX5_copyRow_2 rfl ?_
  refine a_iconst dX5_copyRow_3 (v := nI 0) (by decide) ?_
  refine a_bipush dX5_copyRow_4 (v := nI 6) (by decide) ?_
  obtain ⟨e1, e2, e3, e4, e5, k⟩ := k
  refine a_copy dX5_copyRow_6 lC_RX5_54 wCopy rfl rfl (by decide) (Nat.le_of_ble_eq_true rfl) e1 e2 e3 e4 e5 ?_
  exact a_vret dX5_copyRow_9 rfl k
theorem e_X5_copyRow_6 {G : dh_G} {h : dh_H} {Q : Option Value → dh_H → Prop} (k : (¬ nI 0 < 0) ∧ (¬ nI 0 < 0) ∧ (¬ nI 6 < 0) ∧ ((nI 0).toNatClampNeg + (nI 6).toNatClampNeg ≤ 6) ∧ ((nI 0).toNatClampNeg + (nI 6).toNatClampNeg ≤ 6) ∧ Q none (dh_c h 14 6 (nI 0).toNatClampNeg (nI 0).toNatClampNeg (nI 6).toNatClampNeg)) : dh_C G mX5_copyRow [.ref 14, .ref 6] h Q := dh_C_of [some (.ref 14), some (.ref 6)] (by decide) (Nat.le_of_ble_eq_true rfl) rfl (w_X5_copyRow_6_0 k)
set_option maxRecDepth 100000 in
theorem w_X5_copyRow_7_0 {G : dh_G} {h : dh_H} {Q : Option Value → dh_H → Prop} (k : (¬ nI 0 < 0) ∧ (¬ nI 0 < 0) ∧ (¬ nI 6 < 0) ∧ ((nI 0).toNatClampNeg + (nI 6).toNatClampNeg ≤ 6) ∧ ((nI 0).toNatClampNeg + (nI 6).toNatClampNeg ≤ 6) ∧ Q none (dh_c h 15 7 (nI 0).toNatClampNeg (nI 0).toNatClampNeg (nI 6).toNatClampNeg)) : dh_J G mX5_copyRow 0 [some (.ref 15), some (.ref 7)] [] h Q := by
  refine a_aload_n dX5_copyRow_0 rfl ?_
  refine a_iconst dX5_copyRow_1 (v := nI 0) (by decide) ?_
  refine a_aload_n dX5_copyRow_2 rfl ?_
  refine a_iconst dX5_copyRow_3 (v := nI 0) (by decide) ?_
  refine a_bipush dX5_copyRow_4 (v := nI 6) (by decide) ?_
  obtain ⟨e1, e2, e3, e4, e5, k⟩ := k
  refine a_copy dX5_copyRow_6 lC_RX5_54 wCopy rfl rfl (by decide) (Nat.le_of_ble_eq_true rfl) e1 e2 e3 e4 e5 ?_
  exact a_vret dX5_copyRow_9 rfl k
theorem e_X5_copyRow_7 {G : dh_G} {h : dh_H} {Q : Option Value → dh_H → Prop} (k : (¬ nI 0 < 0) ∧ (¬ nI 0 < 0) ∧ (¬ nI 6 < 0) ∧ ((nI 0).toNatClampNeg + (nI 6).toNatClampNeg ≤ 6) ∧ ((nI 0).toNatClampNeg + (nI 6).toNatClampNeg ≤ 6) ∧ Q none (dh_c h 15 7 (nI 0).toNatClampNeg (nI 0).toNatClampNeg (nI 6).toNatClampNeg)) : dh_C G mX5_copyRow [.ref 15, .ref 7] h Q := dh_C_of [some (.ref 15), some (.ref 7)] (by decide) (Nat.le_of_ble_eq_true rfl) rfl (w_X5_copyRow_7_0 k)
set_option maxRecDepth 100000 in
theorem w_X5_copyRow_8_0 {G : dh_G} {h : dh_H} {Q : Option Value → dh_H → Prop} (k : (¬ nI 0 < 0) ∧ (¬ nI 0 < 0) ∧ (¬ nI 6 < 0) ∧ ((nI 0).toNatClampNeg + (nI 6).toNatClampNeg ≤ 6) ∧ ((nI 0).toNatClampNeg + (nI 6).toNatClampNeg ≤ 6) ∧ Q none (dh_c h 16 8 (nI 0).toNatClampNeg (nI 0).toNatClampNeg (nI 6).toNatClampNeg)) : dh_J G mX5_copyRow 0 [some (.ref 16), some (.ref 8)] [] h Q := by
  refine a_aload_n dX5_copyRow_0 rfl ?_
  refine a_iconst dX5_copyRow_1 (v := nI 0) (by decide) ?_
  refine a_aload_n dX5_copyRow_2 rfl ?_
  refine a_iconst dX5_copyRow_3 (v := nI 0) (by decide) ?_
  refine a_bipush dX5_copyRow_4 (v := nI 6) (by decide) ?_
  obtain ⟨e1, e2, e3, e4, e5, k⟩ := k
  refine a_copy dX5_copyRow_6 lC_RX5_54 wCopy rfl rfl (by decide) (Nat.le_of_ble_eq_true rfl) e1 e2 e3 e4 e5 ?_
  exact a_vret dX5_copyRow_9 rfl k
theorem e_X5_copyRow_8 {G : dh_G} {h : dh_H} {Q : Option Value → dh_H → Prop} (k : (¬ nI 0 < 0) ∧ (¬ nI 0 < 0) ∧ (¬ nI 6 < 0) ∧ ((nI 0).toNatClampNeg + (nI 6).toNatClampNeg ≤ 6) ∧ ((nI 0).toNatClampNeg + (nI 6).toNatClampNeg ≤ 6) ∧ Q none (dh_c h 16 8 (nI 0).toNatClampNeg (nI 0).toNatClampNeg (nI 6).toNatClampNeg)) : dh_C G mX5_copyRow [.ref 16, .ref 8] h Q := dh_C_of [some (.ref 16), some (.ref 8)] (by decide) (Nat.le_of_ble_eq_true rfl) rfl (w_X5_copyRow_8_0 k)
set_option maxRecDepth 100000 in
theorem w_X5_copyRow_9_0 {G : dh_G} {h : dh_H} {Q : Option Value → dh_H → Prop} (k : (¬ nI 0 < 0) ∧ (¬ nI 0 < 0) ∧ (¬ nI 6 < 0) ∧ ((nI 0).toNatClampNeg + (nI 6).toNatClampNeg ≤ 6) ∧ ((nI 0).toNatClampNeg + (nI 6).toNatClampNeg ≤ 6) ∧ Q none (dh_c h 17 9 (nI 0).toNatClampNeg (nI 0).toNatClampNeg (nI 6).toNatClampNeg)) : dh_J G mX5_copyRow 0 [some (.ref 17), some (.ref 9)] [] h Q := by
  refine a_aload_n dX5_copyRow_0 rfl ?_
  refine a_iconst dX5_copyRow_1 (v := nI 0) (by decide) ?_
  refine a_aload_n dX5_copyRow_2 rfl ?_
  refine a_iconst dX5_copyRow_3 (v := nI 0) (by decide) ?_
  refine a_bipush dX5_copyRow_4 (v := nI 6) (by decide) ?_
  obtain ⟨e1, e2, e3, e4, e5, k⟩ := k
  refine a_copy dX5_copyRow_6 lC_RX5_54 wCopy rfl rfl (by decide) (Nat.le_of_ble_eq_true rfl) e1 e2 e3 e4 e5 ?_
  exact a_vret dX5_copyRow_9 rfl k
theorem e_X5_copyRow_9 {G : dh_G} {h : dh_H} {Q : Option Value → dh_H → Prop} (k : (¬ nI 0 < 0) ∧ (¬ nI 0 < 0) ∧ (¬ nI 6 < 0) ∧ ((nI 0).toNatClampNeg + (nI 6).toNatClampNeg ≤ 6) ∧ ((nI 0).toNatClampNeg + (nI 6).toNatClampNeg ≤ 6) ∧ Q none (dh_c h 17 9 (nI 0).toNatClampNeg (nI 0).toNatClampNeg (nI 6).toNatClampNeg)) : dh_C G mX5_copyRow [.ref 17, .ref 9] h Q := dh_C_of [some (.ref 17), some (.ref 9)] (by decide) (Nat.le_of_ble_eq_true rfl) rfl (w_X5_copyRow_9_0 k)
set_option maxRecDepth 100000 in
theorem w_X5_copyRow_10_0 {G : dh_G} {h : dh_H} {Q : Option Value → dh_H → Prop} (k : (¬ nI 0 < 0) ∧ (¬ nI 0 < 0) ∧ (¬ nI 6 < 0) ∧ ((nI 0).toNatClampNeg + (nI 6).toNatClampNeg ≤ 6) ∧ ((nI 0).toNatClampNeg + (nI 6).toNatClampNeg ≤ 6) ∧ Q none (dh_c h 18 10 (nI 0).toNatClampNeg (nI 0).toNatClampNeg (nI 6).toNatClampNeg)) : dh_J G mX5_copyRow 0 [some (.ref 18), some (.ref 10)] [] h Q := by
  refine a_aload_n dX5_copyRow_0 rfl ?_
  refine a_iconst dX5_copyRow_1 (v := nI 0) (by decide) ?_
  refine a_aload_n dX5_copyRow_2 rfl ?_
  refine a_iconst dX5_copyRow_3 (v := nI 0) (by decide) ?_
  refine a_bipush dX5_copyRow_4 (v := nI 6) (by decide) ?_
  obtain ⟨e1, e2, e3, e4, e5, k⟩ := k
  refine a_copy dX5_copyRow_6 lC_RX5_54 wCopy rfl rfl (by decide) (Nat.le_of_ble_eq_true rfl) e1 e2 e3 e4 e5 ?_
  exact a_vret dX5_copyRow_9 rfl k
theorem e_X5_copyRow_10 {G : dh_G} {h : dh_H} {Q : Option Value → dh_H → Prop} (k : (¬ nI 0 < 0) ∧ (¬ nI 0 < 0) ∧ (¬ nI 6 < 0) ∧ ((nI 0).toNatClampNeg + (nI 6).toNatClampNeg ≤ 6) ∧ ((nI 0).toNatClampNeg + (nI 6).toNatClampNeg ≤ 6) ∧ Q none (dh_c h 18 10 (nI 0).toNatClampNeg (nI 0).toNatClampNeg (nI 6).toNatClampNeg)) : dh_C G mX5_copyRow [.ref 18, .ref 10] h Q := dh_C_of [some (.ref 18), some (.ref 10)] (by decide) (Nat.le_of_ble_eq_true rfl) rfl (w_X5_copyRow_10_0 k)
set_option maxRecDepth 100000 in
theorem w_X5_addChild_0 {G : dh_G} {x1 x2 : Int32} {h : dh_H} {Q : Option Value → dh_H → Prop} (k : (((h 11 3) < (nI 6)) → (vp_in (h 11 3) 6) ∧ (vp_in (h 11 3) 6) ∧ (vp_in (h 11 3) 6) ∧ Q none (dh_s (dh_s (dh_s (dh_s h 12 (h 11 3).toNatClampNeg x1) 13 (h 11 3).toNatClampNeg x2) 14 (h 11 3).toNatClampNeg (-1 : Int32)) 11 3 ((h 11 3) + (nI 1)))) ∧ ((¬ (h 11 3) < (nI 6)) → Q none h)) : dh_J G mX5_addChild 0 [some (.ref 11), some (.int (x1)), some (.int (x2))] [] h Q := by
  refine a_aload_n dX5_addChild_0 rfl ?_
  refine a_getI dX5_addChild_1 fF_RX5_44 rfl rfl ?_
  refine a_bipush dX5_addChild_4 (v := nI 6) (by decide) ?_
  refine a_icmp_lt 10 dX5_addChild_6 (by decide) (fun c1 => ?_) (fun c1 => ?_)
  · replace k := k.1 c1
    refine a_aload_n dX5_addChild_10 rfl ?_
    refine a_getR dX5_addChild_11 fF_RX5_9 rfl rfl ?_
    refine a_aload_n dX5_addChild_14 rfl ?_
    refine a_getI dX5_addChild_15 fF_RX5_44 rfl rfl ?_
    refine a_iload_n dX5_addChild_18 rfl ?_
    obtain ⟨e2, k⟩ := k
    refine a_iast dX5_addChild_19 rfl e2 ?_
    refine a_aload_n dX5_addChild_20 rfl ?_
    refine a_getR dX5_addChild_21 fF_RX5_15 rfl rfl ?_
    refine a_aload_n dX5_addChild_24 rfl ?_
    refine a_getI dX5_addChild_25 fF_RX5_44 rfl rfl ?_
    refine a_iload_n dX5_addChild_28 rfl ?_
    obtain ⟨e3, k⟩ := k
    refine a_iast dX5_addChild_29 rfl e3 ?_
    refine a_aload_n dX5_addChild_30 rfl ?_
    refine a_getR dX5_addChild_31 fF_RX5_18 rfl rfl ?_
    refine a_aload_n dX5_addChild_34 rfl ?_
    refine a_getI dX5_addChild_35 fF_RX5_44 rfl rfl ?_
    refine a_iconst dX5_addChild_38 (v := (-1 : Int32)) (by decide) ?_
    obtain ⟨e4, k⟩ := k
    refine a_iast dX5_addChild_39 rfl e4 ?_
    refine a_aload_n dX5_addChild_40 rfl ?_
    refine a_dup dX5_addChild_41 rfl ?_
    refine a_getI dX5_addChild_42 fF_RX5_44 rfl rfl ?_
    refine a_iconst dX5_addChild_45 (v := nI 1) (by decide) ?_
    refine a_iadd dX5_addChild_46 ?_
    refine a_put dX5_addChild_47 fF_RX5_44 rfl rfl rfl rfl ?_
    exact a_vret dX5_addChild_50 rfl k
  · replace k := k.2 c1
    exact a_vret dX5_addChild_9 rfl k
theorem e_X5_addChild {G : dh_G} {x1 x2 : Int32} {h : dh_H} {Q : Option Value → dh_H → Prop} (k : (((h 11 3) < (nI 6)) → (vp_in (h 11 3) 6) ∧ (vp_in (h 11 3) 6) ∧ (vp_in (h 11 3) 6) ∧ Q none (dh_s (dh_s (dh_s (dh_s h 12 (h 11 3).toNatClampNeg x1) 13 (h 11 3).toNatClampNeg x2) 14 (h 11 3).toNatClampNeg (-1 : Int32)) 11 3 ((h 11 3) + (nI 1)))) ∧ ((¬ (h 11 3) < (nI 6)) → Q none h)) : dh_C G mX5_addChild [.ref 11, .int (x1), .int (x2)] h Q := dh_C_of [some (.ref 11), some (.int (x1)), some (.int (x2))] (by decide) (Nat.le_of_ble_eq_true rfl) rfl (w_X5_addChild_0 k)
set_option maxRecDepth 100000 in
theorem w_X5_addDummy_0 {G : dh_G} {x1 x2 x3 x4 : Int32} {h : dh_H} {Q : Option Value → dh_H → Prop} (k : (((h 11 4) < (nI 6)) → (vp_in (h 11 4) 6) ∧ (vp_in (h 11 4) 6) ∧ (vp_in (h 11 4) 6) ∧ (vp_in (h 11 4) 6) ∧ dh_C G mX5_hasChild [.ref 11, .int (x4)] (dh_s (dh_s (dh_s (dh_s h 15 (h 11 4).toNatClampNeg x1) 16 (h 11 4).toNatClampNeg x2) 17 (h 11 4).toNatClampNeg x3) 18 (h 11 4).toNatClampNeg x4) (fun v h1 => dh_J G mX5_addDummy 57 [some (.ref 11), none, none, none, some (.int (x4))] (v.toList ++ []) h1 Q)) ∧ ((¬ (h 11 4) < (nI 6)) → Q none h)) : dh_J G mX5_addDummy 0 [some (.ref 11), some (.int (x1)), some (.int (x2)), some (.int (x3)), some (.int (x4))] [] h Q := by
  refine a_aload_n dX5_addDummy_0 rfl ?_
  refine a_getI dX5_addDummy_1 fF_RX5_47 rfl rfl ?_
  refine a_bipush dX5_addDummy_4 (v := nI 6) (by decide) ?_
  refine a_icmp_lt 10 dX5_addDummy_6 (by decide) (fun c1 => ?_) (fun c1 => ?_)
  · replace k := k.1 c1
    refine a_aload_n dX5_addDummy_10 rfl ?_
    refine a_getR dX5_addDummy_11 fF_RX5_21 rfl rfl ?_
    refine a_aload_n dX5_addDummy_14 rfl ?_
    refine a_getI dX5_addDummy_15 fF_RX5_47 rfl rfl ?_
    refine a_iload_n dX5_addDummy_18 rfl ?_
    obtain ⟨e2, k⟩ := k
    refine a_iast dX5_addDummy_19 rfl e2 ?_
    refine a_aload_n dX5_addDummy_20 rfl ?_
    refine a_getR dX5_addDummy_21 fF_RX5_24 rfl rfl ?_
    refine a_aload_n dX5_addDummy_24 rfl ?_
    refine a_getI dX5_addDummy_25 fF_RX5_47 rfl rfl ?_
    refine a_iload_n dX5_addDummy_28 rfl ?_
    obtain ⟨e3, k⟩ := k
    refine a_iast dX5_addDummy_29 rfl e3 ?_
    refine a_aload_n dX5_addDummy_30 rfl ?_
    refine a_getR dX5_addDummy_31 fF_RX5_27 rfl rfl ?_
    refine a_aload_n dX5_addDummy_34 rfl ?_
    refine a_getI dX5_addDummy_35 fF_RX5_47 rfl rfl ?_
    refine a_iload_n dX5_addDummy_38 rfl ?_
    obtain ⟨e4, k⟩ := k
    refine a_iast dX5_addDummy_39 rfl e4 ?_
    refine a_aload_n dX5_addDummy_40 rfl ?_
    refine a_getR dX5_addDummy_41 fF_RX5_30 rfl rfl ?_
    refine a_aload_n dX5_addDummy_44 rfl ?_
    refine a_getI dX5_addDummy_45 fF_RX5_47 rfl rfl ?_
    refine a_iload dX5_addDummy_48 rfl ?_
    obtain ⟨e5, k⟩ := k
    refine a_iast dX5_addDummy_50 rfl e5 ?_
    refine a_aload_n dX5_addDummy_51 rfl ?_
    refine a_iload dX5_addDummy_52 rfl ?_
    refine dh_drop 1 ?_
    refine dh_drop 2 ?_
    refine dh_drop 3 ?_
    exact a_callV1 dX5_addDummy_54 (dh_Y_up cY_RX5_60 (by decide)) rfl rfl (Nat.le_of_ble_eq_true rfl) k
  · replace k := k.2 c1
    exact a_vret dX5_addDummy_9 rfl k
theorem e_X5_addDummy {G : dh_G} {x1 x2 x3 x4 : Int32} {h : dh_H} {Q : Option Value → dh_H → Prop} (k : (((h 11 4) < (nI 6)) → (vp_in (h 11 4) 6) ∧ (vp_in (h 11 4) 6) ∧ (vp_in (h 11 4) 6) ∧ (vp_in (h 11 4) 6) ∧ dh_C G mX5_hasChild [.ref 11, .int (x4)] (dh_s (dh_s (dh_s (dh_s h 15 (h 11 4).toNatClampNeg x1) 16 (h 11 4).toNatClampNeg x2) 17 (h 11 4).toNatClampNeg x3) 18 (h 11 4).toNatClampNeg x4) (fun v h1 => dh_J G mX5_addDummy 57 [some (.ref 11), none, none, none, some (.int (x4))] (v.toList ++ []) h1 Q)) ∧ ((¬ (h 11 4) < (nI 6)) → Q none h)) : dh_C G mX5_addDummy [.ref 11, .int (x1), .int (x2), .int (x3), .int (x4)] h Q := dh_C_of [some (.ref 11), some (.int (x1)), some (.int (x2)), some (.int (x3)), some (.int (x4))] (by decide) (Nat.le_of_ble_eq_true rfl) rfl (w_X5_addDummy_0 k)
set_option maxRecDepth 100000 in
theorem w_X5_addDummy_57 {G : dh_G} {x4 s0 : Int32} {h : dh_H} {Q : Option Value → dh_H → Prop} (k : ((s0 = 0) → Q none (dh_s h 11 4 ((h 11 4) + (nI 1)))) ∧ ((¬ s0 = 0) → (vp_in x4 6) ∧ Q none (dh_s (dh_s h 14 x4.toNatClampNeg (h 11 4)) 11 4 ((h 11 4) + (nI 1))))) : dh_J G mX5_addDummy 57 [some (.ref 11), none, none, none, some (.int (x4))] [.int (s0)] h Q := by
  refine a_if_eq 71 dX5_addDummy_57 (by decide) (fun c1 => ?_) (fun c1 => ?_)
  · replace k := k.1 c1
    refine a_aload_n dX5_addDummy_71 rfl ?_
    refine a_dup dX5_addDummy_72 rfl ?_
    refine a_getI dX5_addDummy_73 fF_RX5_47 rfl rfl ?_
    refine a_iconst dX5_addDummy_76 (v := nI 1) (by decide) ?_
    refine a_iadd dX5_addDummy_77 ?_
    refine a_put dX5_addDummy_78 fF_RX5_47 rfl rfl rfl rfl ?_
    exact a_vret dX5_addDummy_81 rfl k
  · replace k := k.2 c1
    refine a_aload_n dX5_addDummy_60 rfl ?_
    refine a_getR dX5_addDummy_61 fF_RX5_18 rfl rfl ?_
    refine a_iload dX5_addDummy_64 rfl ?_
    refine a_aload_n dX5_addDummy_66 rfl ?_
    refine a_getI dX5_addDummy_67 fF_RX5_47 rfl rfl ?_
    obtain ⟨e2, k⟩ := k
    refine a_iast dX5_addDummy_70 rfl e2 ?_
    refine a_aload_n dX5_addDummy_71 rfl ?_
    refine a_dup dX5_addDummy_72 rfl ?_
    refine a_getI dX5_addDummy_73 fF_RX5_47 rfl rfl ?_
    refine a_iconst dX5_addDummy_76 (v := nI 1) (by decide) ?_
    refine a_iadd dX5_addDummy_77 ?_
    refine a_put dX5_addDummy_78 fF_RX5_47 rfl rfl rfl rfl ?_
    exact a_vret dX5_addDummy_81 rfl k
set_option maxRecDepth 100000 in
theorem w_X5_hasChild_3_0 {G : dh_G} {x1 : Int32} {h : dh_H} {Q : Option Value → dh_H → Prop} (k : ((x1 < 0) → Q (some (.int (nI 0))) h) ∧ ((¬ x1 < 0) → (((h 3 3) ≤ x1) → Q (some (.int (nI 0))) h) ∧ ((¬ (h 3 3) ≤ x1) → Q (some (.int (nI 1))) h))) : dh_J G mX5_hasChild 0 [some (.ref 3), some (.int (x1))] [] h Q := by
  refine a_iload_n dX5_hasChild_0 rfl ?_
  refine a_if_lt 16 dX5_hasChild_1 (by decide) (fun c1 => ?_) (fun c1 => ?_)
  · replace k := k.1 c1
    refine a_iconst dX5_hasChild_16 (v := nI 0) (by decide) ?_
    exact a_zret dX5_hasChild_17 rfl (by decide) k
  · replace k := k.2 c1
    refine a_iload_n dX5_hasChild_4 rfl ?_
    refine a_aload_n dX5_hasChild_5 rfl ?_
    refine a_getI dX5_hasChild_6 fF_RX5_44 rfl rfl ?_
    refine a_icmp_ge 16 dX5_hasChild_9 (by decide) (fun c2 => ?_) (fun c2 => ?_)
    · replace k := k.1 c2
      refine a_iconst dX5_hasChild_16 (v := nI 0) (by decide) ?_
      exact a_zret dX5_hasChild_17 rfl (by decide) k
    · replace k := k.2 c2
      refine a_iconst dX5_hasChild_12 (v := nI 1) (by decide) ?_
      refine a_goto 17 dX5_hasChild_13 (by decide) ?_
      exact a_zret dX5_hasChild_17 rfl (by decide) k
theorem e_X5_hasChild_3 {G : dh_G} {x1 : Int32} {h : dh_H} {Q : Option Value → dh_H → Prop} (k : ((x1 < 0) → Q (some (.int (nI 0))) h) ∧ ((¬ x1 < 0) → (((h 3 3) ≤ x1) → Q (some (.int (nI 0))) h) ∧ ((¬ (h 3 3) ≤ x1) → Q (some (.int (nI 1))) h))) : dh_C G mX5_hasChild [.ref 3, .int (x1)] h Q := dh_C_of [some (.ref 3), some (.int (x1))] (by decide) (Nat.le_of_ble_eq_true rfl) rfl (w_X5_hasChild_3_0 k)
set_option maxRecDepth 100000 in
theorem w_X5_hasChild_11_0 {G : dh_G} {x1 : Int32} {h : dh_H} {Q : Option Value → dh_H → Prop} (k : ((x1 < 0) → Q (some (.int (nI 0))) h) ∧ ((¬ x1 < 0) → (((h 11 3) ≤ x1) → Q (some (.int (nI 0))) h) ∧ ((¬ (h 11 3) ≤ x1) → Q (some (.int (nI 1))) h))) : dh_J G mX5_hasChild 0 [some (.ref 11), some (.int (x1))] [] h Q := by
  refine a_iload_n dX5_hasChild_0 rfl ?_
  refine a_if_lt 16 dX5_hasChild_1 (by decide) (fun c1 => ?_) (fun c1 => ?_)
  · replace k := k.1 c1
    refine a_iconst dX5_hasChild_16 (v := nI 0) (by decide) ?_
    exact a_zret dX5_hasChild_17 rfl (by decide) k
  · replace k := k.2 c1
    refine a_iload_n dX5_hasChild_4 rfl ?_
    refine a_aload_n dX5_hasChild_5 rfl ?_
    refine a_getI dX5_hasChild_6 fF_RX5_44 rfl rfl ?_
    refine a_icmp_ge 16 dX5_hasChild_9 (by decide) (fun c2 => ?_) (fun c2 => ?_)
    · replace k := k.1 c2
      refine a_iconst dX5_hasChild_16 (v := nI 0) (by decide) ?_
      exact a_zret dX5_hasChild_17 rfl (by decide) k
    · replace k := k.2 c2
      refine a_iconst dX5_hasChild_12 (v := nI 1) (by decide) ?_
      refine a_goto 17 dX5_hasChild_13 (by decide) ?_
      exact a_zret dX5_hasChild_17 rfl (by decide) k
theorem e_X5_hasChild_11 {G : dh_G} {x1 : Int32} {h : dh_H} {Q : Option Value → dh_H → Prop} (k : ((x1 < 0) → Q (some (.int (nI 0))) h) ∧ ((¬ x1 < 0) → (((h 11 3) ≤ x1) → Q (some (.int (nI 0))) h) ∧ ((¬ (h 11 3) ≤ x1) → Q (some (.int (nI 1))) h))) : dh_C G mX5_hasChild [.ref 11, .int (x1)] h Q := dh_C_of [some (.ref 11), some (.int (x1))] (by decide) (Nat.le_of_ble_eq_true rfl) rfl (w_X5_hasChild_11_0 k)
set_option maxRecDepth 100000 in
theorem w_X5_hasDummy_0 {G : dh_G} {x1 : Int32} {h : dh_H} {Q : Option Value → dh_H → Prop} (k : ((x1 < 0) → Q (some (.int (nI 0))) h) ∧ ((¬ x1 < 0) → (((h 3 4) ≤ x1) → Q (some (.int (nI 0))) h) ∧ ((¬ (h 3 4) ≤ x1) → Q (some (.int (nI 1))) h))) : dh_J G mX5_hasDummy 0 [some (.ref 3), some (.int (x1))] [] h Q := by
  refine a_iload_n dX5_hasDummy_0 rfl ?_
  refine a_if_lt 16 dX5_hasDummy_1 (by decide) (fun c1 => ?_) (fun c1 => ?_)
  · replace k := k.1 c1
    refine a_iconst dX5_hasDummy_16 (v := nI 0) (by decide) ?_
    exact a_zret dX5_hasDummy_17 rfl (by decide) k
  · replace k := k.2 c1
    refine a_iload_n dX5_hasDummy_4 rfl ?_
    refine a_aload_n dX5_hasDummy_5 rfl ?_
    refine a_getI dX5_hasDummy_6 fF_RX5_47 rfl rfl ?_
    refine a_icmp_ge 16 dX5_hasDummy_9 (by decide) (fun c2 => ?_) (fun c2 => ?_)
    · replace k := k.1 c2
      refine a_iconst dX5_hasDummy_16 (v := nI 0) (by decide) ?_
      exact a_zret dX5_hasDummy_17 rfl (by decide) k
    · replace k := k.2 c2
      refine a_iconst dX5_hasDummy_12 (v := nI 1) (by decide) ?_
      refine a_goto 17 dX5_hasDummy_13 (by decide) ?_
      exact a_zret dX5_hasDummy_17 rfl (by decide) k
theorem e_X5_hasDummy {G : dh_G} {x1 : Int32} {h : dh_H} {Q : Option Value → dh_H → Prop} (k : ((x1 < 0) → Q (some (.int (nI 0))) h) ∧ ((¬ x1 < 0) → (((h 3 4) ≤ x1) → Q (some (.int (nI 0))) h) ∧ ((¬ (h 3 4) ≤ x1) → Q (some (.int (nI 1))) h))) : dh_C G mX5_hasDummy [.ref 3, .int (x1)] h Q := dh_C_of [some (.ref 3), some (.int (x1))] (by decide) (Nat.le_of_ble_eq_true rfl) rfl (w_X5_hasDummy_0 k)
set_option maxRecDepth 100000 in
theorem w_X5_takes_0 {G : dh_G} {x1 x2 : Int32} {h : dh_H} {Q : Option Value → dh_H → Prop} (k : dh_C G mX5_hasChild [.ref 3, .int (x1)] h (fun v h1 => dh_J G mX5_takes 5 [some (.ref 3), some (.int (x1)), some (.int (x2))] (v.toList ++ []) h1 Q)) : dh_J G mX5_takes 0 [some (.ref 3), some (.int (x1)), some (.int (x2))] [] h Q := by
  refine a_aload_n dX5_takes_0 rfl ?_
  refine a_iload_n dX5_takes_1 rfl ?_
  exact a_callV1 dX5_takes_2 (dh_Y_up cY_RX5_60 (by decide)) rfl rfl (Nat.le_of_ble_eq_true rfl) k
theorem e_X5_takes {G : dh_G} {x1 x2 : Int32} {h : dh_H} {Q : Option Value → dh_H → Prop} (k : dh_C G mX5_hasChild [.ref 3, .int (x1)] h (fun v h1 => dh_J G mX5_takes 5 [some (.ref 3), some (.int (x1)), some (.int (x2))] (v.toList ++ []) h1 Q)) : dh_C G mX5_takes [.ref 3, .int (x1), .int (x2)] h Q := dh_C_of [some (.ref 3), some (.int (x1)), some (.int (x2))] (by decide) (Nat.le_of_ble_eq_true rfl) rfl (w_X5_takes_0 k)
set_option maxRecDepth 100000 in
theorem w_X5_takes_5 {G : dh_G} {x1 x2 s0 : Int32} {h : dh_H} {Q : Option Value → dh_H → Prop} (k : ((s0 = 0) → Q (some (.int (nI 0))) h) ∧ ((¬ s0 = 0) → (vp_in x1 6) ∧ dh_C G mX5_takesOwning [.ref 3, .int (x1), .int (h 6 x1.toNatClampNeg), .int (x2)] h (fun v h1 => dh_J G mX5_takes 20 [none, none, none] (v.toList ++ []) h1 Q))) : dh_J G mX5_takes 5 [some (.ref 3), some (.int (x1)), some (.int (x2))] [.int (s0)] h Q := by
  refine a_if_eq 27 dX5_takes_5 (by decide) (fun c1 => ?_) (fun c1 => ?_)
  · replace k := k.1 c1
    refine a_iconst dX5_takes_27 (v := nI 0) (by decide) ?_
    exact a_zret dX5_takes_28 rfl (by decide) k
  · replace k := k.2 c1
    refine a_aload_n dX5_takes_8 rfl ?_
    refine a_iload_n dX5_takes_9 rfl ?_
    refine a_aload_n dX5_takes_10 rfl ?_
    refine a_getR dX5_takes_11 fF_RX5_18 rfl rfl ?_
    refine a_iload_n dX5_takes_14 rfl ?_
    obtain ⟨e2, k⟩ := k
    refine a_iald dX5_takes_15 rfl e2 ?_
    refine a_iload_n dX5_takes_16 rfl ?_
    refine dh_drop 0 ?_
    refine dh_drop 1 ?_
    refine dh_drop 2 ?_
    exact a_callV3 dX5_takes_17 (dh_Y_up cY_RX5_64 (by decide)) rfl rfl (Nat.le_of_ble_eq_true rfl) k
set_option maxRecDepth 100000 in
theorem w_X5_takes_20 {G : dh_G} {s0 : Int32} {h : dh_H} {Q : Option Value → dh_H → Prop} (k : ((s0 = 0) → Q (some (.int (nI 0))) h) ∧ ((¬ s0 = 0) → Q (some (.int (nI 1))) h)) : dh_J G mX5_takes 20 [none, none, none] [.int (s0)] h Q := by
  refine a_if_eq 27 dX5_takes_20 (by decide) (fun c1 => ?_) (fun c1 => ?_)
  · replace k := k.1 c1
    refine a_iconst dX5_takes_27 (v := nI 0) (by decide) ?_
    exact a_zret dX5_takes_28 rfl (by decide) k
  · replace k := k.2 c1
    refine a_iconst dX5_takes_23 (v := nI 1) (by decide) ?_
    refine a_goto 28 dX5_takes_24 (by decide) ?_
    exact a_zret dX5_takes_28 rfl (by decide) k
set_option maxRecDepth 100000 in
theorem w_X5_takesOwning_0 {G : dh_G} {x1 x2 x3 : Int32} {h : dh_H} {Q : Option Value → dh_H → Prop} (k : dh_C G mX5_hasChild [.ref 3, .int (x1)] h (fun v h1 => dh_J G mX5_takesOwning 5 [some (.ref 3), some (.int (x1)), some (.int (x2)), some (.int (x3))] (v.toList ++ []) h1 Q)) : dh_J G mX5_takesOwning 0 [some (.ref 3), some (.int (x1)), some (.int (x2)), some (.int (x3))] [] h Q := by
  refine a_aload_n dX5_takesOwning_0 rfl ?_
  refine a_iload_n dX5_takesOwning_1 rfl ?_
  exact a_callV1 dX5_takesOwning_2 (dh_Y_up cY_RX5_60 (by decide)) rfl rfl (Nat.le_of_ble_eq_true rfl) k
theorem e_X5_takesOwning {G : dh_G} {x1 x2 x3 : Int32} {h : dh_H} {Q : Option Value → dh_H → Prop} (k : dh_C G mX5_hasChild [.ref 3, .int (x1)] h (fun v h1 => dh_J G mX5_takesOwning 5 [some (.ref 3), some (.int (x1)), some (.int (x2)), some (.int (x3))] (v.toList ++ []) h1 Q)) : dh_C G mX5_takesOwning [.ref 3, .int (x1), .int (x2), .int (x3)] h Q := dh_C_of [some (.ref 3), some (.int (x1)), some (.int (x2)), some (.int (x3))] (by decide) (Nat.le_of_ble_eq_true rfl) rfl (w_X5_takesOwning_0 k)
set_option maxRecDepth 100000 in
theorem w_X5_takesOwning_5 {G : dh_G} {x1 x2 x3 s0 : Int32} {h : dh_H} {Q : Option Value → dh_H → Prop} (k : ((s0 = 0) → Q (some (.int (nI 0))) h) ∧ ((¬ s0 = 0) → dh_C G mX5_hasDummy [.ref 3, .int (x3)] h (fun v h1 => dh_J G mX5_takesOwning 13 [some (.ref 3), some (.int (x1)), some (.int (x2)), some (.int (x3))] (v.toList ++ []) h1 Q))) : dh_J G mX5_takesOwning 5 [some (.ref 3), some (.int (x1)), some (.int (x2)), some (.int (x3))] [.int (s0)] h Q := by
  refine a_if_eq 16 dX5_takesOwning_5 (by decide) (fun c1 => ?_) (fun c1 => ?_)
  · replace k := k.1 c1
    refine a_iconst dX5_takesOwning_16 (v := nI 0) (by decide) ?_
    exact a_zret dX5_takesOwning_17 rfl (by decide) k
  · replace k := k.2 c1
    refine a_aload_n dX5_takesOwning_8 rfl ?_
    refine a_iload_n dX5_takesOwning_9 rfl ?_
    exact a_callV1 dX5_takesOwning_10 (dh_Y_up cY_RX5_68 (by decide)) rfl rfl (Nat.le_of_ble_eq_true rfl) k
set_option maxRecDepth 100000 in
theorem w_X5_takesOwning_13 {G : dh_G} {x1 x2 x3 s0 : Int32} {h : dh_H} {Q : Option Value → dh_H → Prop} (k : ((¬ s0 = 0) → (vp_in x1 6) ∧ ((¬ (h 4 x1.toNatClampNeg) = (nI 3)) → dh_C G mX5_hasDummy [.ref 3, .int (x2)] h (fun v h1 => dh_J G mX5_takesOwning 35 [some (.ref 3), some (.int (x1)), some (.int (x2)), some (.int (x3))] (v.toList ++ []) h1 Q)) ∧ (((h 4 x1.toNatClampNeg) = (nI 3)) → Q (some (.int (nI 1))) h)) ∧ ((s0 = 0) → Q (some (.int (nI 0))) h)) : dh_J G mX5_takesOwning 13 [some (.ref 3), some (.int (x1)), some (.int (x2)), some (.int (x3))] [.int (s0)] h Q := by
  refine a_if_ne 18 dX5_takesOwning_13 (by decide) (fun c1 => ?_) (fun c1 => ?_)
  · replace k := k.1 c1
    refine a_aload_n dX5_takesOwning_18 rfl ?_
    refine a_getR dX5_takesOwning_19 fF_RX5_9 rfl rfl ?_
    refine a_iload_n dX5_takesOwning_22 rfl ?_
    obtain ⟨e2, k⟩ := k
    refine a_iald dX5_takesOwning_23 rfl e2 ?_
    refine a_iconst dX5_takesOwning_24 (v := nI 3) (by decide) ?_
    refine a_icmp_ne 30 dX5_takesOwning_25 (by decide) (fun c3 => ?_) (fun c3 => ?_)
    · replace k := k.1 c3
      refine a_aload_n dX5_takesOwning_30 rfl ?_
      refine a_iload_n dX5_takesOwning_31 rfl ?_
      exact a_callV1 dX5_takesOwning_32 (dh_Y_up cY_RX5_68 (by decide)) rfl rfl (Nat.le_of_ble_eq_true rfl) k
    · replace k := k.2 c3
      refine a_iconst dX5_takesOwning_28 (v := nI 1) (by decide) ?_
      exact a_zret dX5_takesOwning_29 rfl (by decide) k
  · replace k := k.2 c1
    refine a_iconst dX5_takesOwning_16 (v := nI 0) (by decide) ?_
    exact a_zret dX5_takesOwning_17 rfl (by decide) k
set_option maxRecDepth 100000 in
theorem w_X5_takesOwning_35 {G : dh_G} {x1 x2 x3 s0 : Int32} {h : dh_H} {Q : Option Value → dh_H → Prop} (k : ((¬ s0 = 0) → (vp_in x1 6) ∧ ((¬ (h 4 x1.toNatClampNeg) = (nI 1)) → (vp_in x1 6) ∧ ((¬ (h 4 x1.toNatClampNeg) = (nI 2)) → ((¬ x3 = x2) → Q (some (.int (nI 0))) h) ∧ ((x3 = x2) → Q (some (.int (nI 1))) h)) ∧ (((h 4 x1.toNatClampNeg) = (nI 2)) → (vp_in x3 6) ∧ (vp_in x2 6) ∧ ((¬ (h 7 x3.toNatClampNeg) = (h 7 x2.toNatClampNeg)) → Q (some (.int (nI 0))) h) ∧ (((h 7 x3.toNatClampNeg) = (h 7 x2.toNatClampNeg)) → Q (some (.int (nI 1))) h))) ∧ (((h 4 x1.toNatClampNeg) = (nI 1)) → (vp_in x3 6) ∧ (vp_in x2 6) ∧ ((¬ (h 8 x3.toNatClampNeg) = (h 8 x2.toNatClampNeg)) → Q (some (.int (nI 0))) h) ∧ (((h 8 x3.toNatClampNeg) = (h 8 x2.toNatClampNeg)) → Q (some (.int (nI 1))) h))) ∧ ((s0 = 0) → Q (some (.int (nI 0))) h)) : dh_J G mX5_takesOwning 35 [some (.ref 3), some (.int (x1)), some (.int (x2)), some (.int (x3))] [.int (s0)] h Q := by
  refine a_if_ne 40 dX5_takesOwning_35 (by decide) (fun c1 => ?_) (fun c1 => ?_)
  · replace k := k.1 c1
    refine a_aload_n dX5_takesOwning_40 rfl ?_
    refine a_getR dX5_takesOwning_41 fF_RX5_9 rfl rfl ?_
    refine a_iload_n dX5_takesOwning_44 rfl ?_
    obtain ⟨e2, k⟩ := k
    refine a_iald dX5_takesOwning_45 rfl e2 ?_
    refine a_iconst dX5_takesOwning_46 (v := nI 1) (by decide) ?_
    refine a_icmp_ne 71 dX5_takesOwning_47 (by decide) (fun c3 => ?_) (fun c3 => ?_)
    · replace k := k.1 c3
      refine a_aload_n dX5_takesOwning_71 rfl ?_
      refine a_getR dX5_takesOwning_72 fF_RX5_9 rfl rfl ?_
      refine a_iload_n dX5_takesOwning_75 rfl ?_
      obtain ⟨e4, k⟩ := k
      refine a_iald dX5_takesOwning_76 rfl e4 ?_
      refine a_iconst dX5_takesOwning_77 (v := nI 2) (by decide) ?_
      refine a_icmp_ne 102 dX5_takesOwning_78 (by decide) (fun c5 => ?_) (fun c5 => ?_)
      · replace k := k.1 c5
        refine a_iload_n dX5_takesOwning_102 rfl ?_
        refine a_iload_n dX5_takesOwning_103 rfl ?_
        refine a_icmp_ne 111 dX5_takesOwning_104 (by decide) (fun c6 => ?_) (fun c6 => ?_)
        · replace k := k.1 c6
          refine a_iconst dX5_takesOwning_111 (v := nI 0) (by decide) ?_
          exact a_zret dX5_takesOwning_112 rfl (by decide) k
        · replace k := k.2 c6
          refine a_iconst dX5_takesOwning_107 (v := nI 1) (by decide) ?_
          refine a_goto 112 dX5_takesOwning_108 (by decide) ?_
          exact a_zret dX5_takesOwning_112 rfl (by decide) k
      · replace k := k.2 c5
        refine a_aload_n dX5_takesOwning_81 rfl ?_
        refine a_getR dX5_takesOwning_82 fF_RX5_21 rfl rfl ?_
        refine a_iload_n dX5_takesOwning_85 rfl ?_
        obtain ⟨e7, k⟩ := k
        refine a_iald dX5_takesOwning_86 rfl e7 ?_
        refine a_aload_n dX5_takesOwning_87 rfl ?_
        refine a_getR dX5_takesOwning_88 fF_RX5_21 rfl rfl ?_
        refine a_iload_n dX5_takesOwning_91 rfl ?_
        obtain ⟨e8, k⟩ := k
        refine a_iald dX5_takesOwning_92 rfl e8 ?_
        refine a_icmp_ne 100 dX5_takesOwning_93 (by decide) (fun c9 => ?_) (fun c9 => ?_)
        · replace k := k.1 c9
          refine a_iconst dX5_takesOwning_100 (v := nI 0) (by decide) ?_
          exact a_zret dX5_takesOwning_101 rfl (by decide) k
        · replace k := k.2 c9
          refine a_iconst dX5_takesOwning_96 (v := nI 1) (by decide) ?_
          refine a_goto 101 dX5_takesOwning_97 (by decide) ?_
          exact a_zret dX5_takesOwning_101 rfl (by decide) k
    · replace k := k.2 c3
      refine a_aload_n dX5_takesOwning_50 rfl ?_
      refine a_getR dX5_takesOwning_51 fF_RX5_24 rfl rfl ?_
      refine a_iload_n dX5_takesOwning_54 rfl ?_
      obtain ⟨e10, k⟩ := k
      refine a_iald dX5_takesOwning_55 rfl e10 ?_
      refine a_aload_n dX5_takesOwning_56 rfl ?_
      refine a_getR dX5_takesOwning_57 fF_RX5_24 rfl rfl ?_
      refine a_iload_n dX5_takesOwning_60 rfl ?_
      obtain ⟨e11, k⟩ := k
      refine a_iald dX5_takesOwning_61 rfl e11 ?_
      refine a_icmp_ne 69 dX5_takesOwning_62 (by decide) (fun c12 => ?_) (fun c12 => ?_)
      · replace k := k.1 c12
        refine a_iconst dX5_takesOwning_69 (v := nI 0) (by decide) ?_
        exact a_zret dX5_takesOwning_70 rfl (by decide) k
      · replace k := k.2 c12
        refine a_iconst dX5_takesOwning_65 (v := nI 1) (by decide) ?_
        refine a_goto 70 dX5_takesOwning_66 (by decide) ?_
        exact a_zret dX5_takesOwning_70 rfl (by decide) k
  · replace k := k.2 c1
    refine a_iconst dX5_takesOwning_38 (v := nI 0) (by decide) ?_
    exact a_zret dX5_takesOwning_39 rfl (by decide) k
