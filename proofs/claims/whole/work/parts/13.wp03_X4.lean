set_option maxRecDepth 100000 in
theorem w_X4_remember_0 {G : dh_G} {h : dh_H} {Q : Option Value → dh_H → Prop} (k : dh_C G mX8_saveTo [.ref 19, .ref 26, .int ((h 25 1) * (nI 31))] h (fun v h1 => dh_J G mX4_remember 15 [some (.ref 25), none] (v.toList ++ []) h1 Q)) : dh_J G mX4_remember 0 [some (.ref 25), some (.ref 19)] [] h Q := by
  refine a_aload_n dX4_remember_0 rfl ?_
  refine a_aload_n dX4_remember_1 rfl ?_
  refine a_getR dX4_remember_2 fF_RX4_11 rfl rfl ?_
  refine a_aload_n dX4_remember_5 rfl ?_
  refine a_getI dX4_remember_6 fF_RX4_17 rfl rfl ?_
  refine a_bipush dX4_remember_9 (v := nI 31) (by decide) ?_
  refine a_imul dX4_remember_11 ?_
  refine dh_drop 1 ?_
  exact a_callV2 dX4_remember_12 (dh_Y_up cY_RX4_21 (by decide)) rfl rfl (Nat.le_of_ble_eq_true rfl) k
theorem e_X4_remember {G : dh_G} {h : dh_H} {Q : Option Value → dh_H → Prop} (k : dh_C G mX8_saveTo [.ref 19, .ref 26, .int ((h 25 1) * (nI 31))] h (fun v h1 => dh_J G mX4_remember 15 [some (.ref 25), none] (v.toList ++ []) h1 Q)) : dh_C G mX4_remember [.ref 25, .ref 19] h Q := dh_C_of [some (.ref 25), some (.ref 19)] (by decide) (Nat.le_of_ble_eq_true rfl) rfl (w_X4_remember_0 k)
set_option maxRecDepth 100000 in
theorem w_X4_remember_15 {G : dh_G} {h : dh_H} {Q : Option Value → dh_H → Prop} (k : (¬ nI 20 = 0) ∧ Q none (dh_s (dh_s h 25 1 (((h 25 1) + (nI 1)) - ((h 25 1) + (nI 1)) / (nI 20) * (nI 20))) 25 2 (if nI 20 < (h 25 2) + (nI 1) then nI 20 else (h 25 2) + (nI 1)))) : dh_J G mX4_remember 15 [some (.ref 25), none] [] h Q := by
  refine a_aload_n dX4_remember_15 rfl ?_
  refine a_aload_n dX4_remember_16 rfl ?_
  refine a_getI dX4_remember_17 fF_RX4_17 rfl rfl ?_
  refine a_iconst dX4_remember_20 (v := nI 1) (by decide) ?_
  refine a_iadd dX4_remember_21 ?_
  refine a_bipush dX4_remember_22 (v := nI 20) (by decide) ?_
  obtain ⟨e1, k⟩ := k
  refine a_irem dX4_remember_24 e1 ?_
  refine a_put dX4_remember_25 fF_RX4_17 rfl rfl rfl rfl ?_
  refine a_aload_n dX4_remember_28 rfl ?_
  refine a_aload_n dX4_remember_29 rfl ?_
  refine a_getI dX4_remember_30 fF_RX4_25 rfl rfl ?_
  refine a_iconst dX4_remember_33 (v := nI 1) (by decide) ?_
  refine a_iadd dX4_remember_34 ?_
  refine a_bipush dX4_remember_35 (v := nI 20) (by decide) ?_
  refine a_min dX4_remember_37 lM_RX4_28 wMmin (by decide) (Nat.le_of_ble_eq_true rfl) ?_
  refine a_put dX4_remember_40 fF_RX4_25 rfl rfl rfl rfl ?_
  exact a_vret dX4_remember_43 rfl k
set_option maxRecDepth 100000 in
theorem w_X4_recall_0 {G : dh_G} {h : dh_H} {Q : Option Value → dh_H → Prop} (k : ((¬ (h 25 2) = 0) → (¬ nI 20 = 0) ∧ dh_C G mX8_loadFrom [.ref 19, .ref 26, .int (((((h 25 1) + (nI 20)) - (nI 1)) - (((h 25 1) + (nI 20)) - (nI 1)) / (nI 20) * (nI 20)) * (nI 31))] (dh_s (dh_s h 25 1 ((((h 25 1) + (nI 20)) - (nI 1)) - (((h 25 1) + (nI 20)) - (nI 1)) / (nI 20) * (nI 20))) 25 2 ((h 25 2) - (nI 1))) (fun v h1 => dh_J G mX4_recall 49 [none, none] (v.toList ++ []) h1 Q)) ∧ (((h 25 2) = 0) → Q none h)) : dh_J G mX4_recall 0 [some (.ref 25), some (.ref 19)] [] h Q := by
  refine a_aload_n dX4_recall_0 rfl ?_
  refine a_getI dX4_recall_1 fF_RX4_25 rfl rfl ?_
  refine a_if_ne 8 dX4_recall_4 (by decide) (fun c1 => ?_) (fun c1 => ?_)
  · replace k := k.1 c1
    refine a_aload_n dX4_recall_8 rfl ?_
    refine a_aload_n dX4_recall_9 rfl ?_
    refine a_getI dX4_recall_10 fF_RX4_17 rfl rfl ?_
    refine a_bipush dX4_recall_13 (v := nI 20) (by decide) ?_
    refine a_iadd dX4_recall_15 ?_
    refine a_iconst dX4_recall_16 (v := nI 1) (by decide) ?_
    refine a_isub dX4_recall_17 ?_
    refine a_bipush dX4_recall_18 (v := nI 20) (by decide) ?_
    obtain ⟨e2, k⟩ := k
    refine a_irem dX4_recall_20 e2 ?_
    refine a_put dX4_recall_21 fF_RX4_17 rfl rfl rfl rfl ?_
    refine a_aload_n dX4_recall_24 rfl ?_
    refine a_dup dX4_recall_25 rfl ?_
    refine a_getI dX4_recall_26 fF_RX4_25 rfl rfl ?_
    refine a_iconst dX4_recall_29 (v := nI 1) (by decide) ?_
    refine a_isub dX4_recall_30 ?_
    refine a_put dX4_recall_31 fF_RX4_25 rfl rfl rfl rfl ?_
    refine a_aload_n dX4_recall_34 rfl ?_
    refine a_aload_n dX4_recall_35 rfl ?_
    refine a_getR dX4_recall_36 fF_RX4_11 rfl rfl ?_
    refine a_aload_n dX4_recall_39 rfl ?_
    refine a_getI dX4_recall_40 fF_RX4_17 rfl rfl ?_
    refine a_bipush dX4_recall_43 (v := nI 31) (by decide) ?_
    refine a_imul dX4_recall_45 ?_
    refine dh_drop 0 ?_
    refine dh_drop 1 ?_
    exact a_callV2 dX4_recall_46 (dh_Y_up cY_RX4_34 (by decide)) rfl rfl (Nat.le_of_ble_eq_true rfl) k
  · replace k := k.2 c1
    exact a_vret dX4_recall_7 rfl k
theorem e_X4_recall {G : dh_G} {h : dh_H} {Q : Option Value → dh_H → Prop} (k : ((¬ (h 25 2) = 0) → (¬ nI 20 = 0) ∧ dh_C G mX8_loadFrom [.ref 19, .ref 26, .int (((((h 25 1) + (nI 20)) - (nI 1)) - (((h 25 1) + (nI 20)) - (nI 1)) / (nI 20) * (nI 20)) * (nI 31))] (dh_s (dh_s h 25 1 ((((h 25 1) + (nI 20)) - (nI 1)) - (((h 25 1) + (nI 20)) - (nI 1)) / (nI 20) * (nI 20))) 25 2 ((h 25 2) - (nI 1))) (fun v h1 => dh_J G mX4_recall 49 [none, none] (v.toList ++ []) h1 Q)) ∧ (((h 25 2) = 0) → Q none h)) : dh_C G mX4_recall [.ref 25, .ref 19] h Q := dh_C_of [some (.ref 25), some (.ref 19)] (by decide) (Nat.le_of_ble_eq_true rfl) rfl (w_X4_recall_0 k)
set_option maxRecDepth 100000 in
theorem w_X4_recall_49 {G : dh_G} {h : dh_H} {Q : Option Value → dh_H → Prop} (k : Q none h) : dh_J G mX4_recall 49 [none, none] [] h Q := by
  exact a_vret dX4_recall_49 rfl k
set_option maxRecDepth 100000 in
theorem w_X4_forget_0 {G : dh_G} {h : dh_H} {Q : Option Value → dh_H → Prop} (k : Q none (dh_s (dh_s h 25 1 (nI 0)) 25 2 (nI 0))) : dh_J G mX4_forget 0 [some (.ref 25)] [] h Q := by
  refine a_aload_n dX4_forget_0 rfl ?_
  refine a_iconst dX4_forget_1 (v := nI 0) (by decide) ?_
  refine a_put dX4_forget_2 fF_RX4_17 rfl rfl rfl rfl ?_
  refine a_aload_n dX4_forget_5 rfl ?_
  refine a_iconst dX4_forget_6 (v := nI 0) (by decide) ?_
  refine a_put dX4_forget_7 fF_RX4_25 rfl rfl rfl rfl ?_
  exact a_vret dX4_forget_10 rfl k
theorem e_X4_forget {G : dh_G} {h : dh_H} {Q : Option Value → dh_H → Prop} (k : Q none (dh_s (dh_s h 25 1 (nI 0)) 25 2 (nI 0))) : dh_C G mX4_forget [.ref 25] h Q := dh_C_of [some (.ref 25)] (by decide) (Nat.le_of_ble_eq_true rfl) rfl (w_X4_forget_0 k)
