set_option maxRecDepth 100000 in
theorem w_X2_takeFrom_56_0 {G : dh_G} {h : dh_H} {Q : Option Value → dh_H → Prop} (k : dh_C G mX8_saveTo [.ref 19, .ref 57, .int (nI 0)] (dh_s (dh_s h 56 0 (nI 1)) 56 1 (h 54 0)) (fun v h1 => dh_J G mX2_takeFrom 22 [none, none, none] (v.toList ++ []) h1 Q)) : dh_J G mX2_takeFrom 0 [some (.ref 56), some (.ref 19), some (.ref 54)] [] h Q := by
  refine a_aload_n dX2_takeFrom_0 rfl ?_
  refine a_iconst dX2_takeFrom_1 (v := nI 1) (by decide) ?_
  refine a_put dX2_takeFrom_2 fF_RX2_15 rfl rfl (by decide) (by decide) ?_
  refine a_aload_n dX2_takeFrom_5 rfl ?_
  refine a_aload_n dX2_takeFrom_6 rfl ?_
  refine a_getI dX2_takeFrom_7 fF_RX2_19 rfl rfl ?_
  refine a_put dX2_takeFrom_10 fF_RX2_25 rfl rfl rfl rfl ?_
  refine a_aload_n dX2_takeFrom_13 rfl ?_
  refine a_aload_n dX2_takeFrom_14 rfl ?_
  refine a_getR dX2_takeFrom_15 fF_RX2_9 rfl rfl ?_
  refine a_iconst dX2_takeFrom_18 (v := nI 0) (by decide) ?_
  refine dh_drop 0 ?_
  refine dh_drop 1 ?_
  refine dh_drop 2 ?_
  exact a_callV2 dX2_takeFrom_19 (dh_Y_up cY_RX2_28 (by decide)) rfl rfl (Nat.le_of_ble_eq_true rfl) k
theorem e_X2_takeFrom_56 {G : dh_G} {h : dh_H} {Q : Option Value → dh_H → Prop} (k : dh_C G mX8_saveTo [.ref 19, .ref 57, .int (nI 0)] (dh_s (dh_s h 56 0 (nI 1)) 56 1 (h 54 0)) (fun v h1 => dh_J G mX2_takeFrom 22 [none, none, none] (v.toList ++ []) h1 Q)) : dh_C G mX2_takeFrom [.ref 56, .ref 19, .ref 54] h Q := dh_C_of [some (.ref 56), some (.ref 19), some (.ref 54)] (by decide) (Nat.le_of_ble_eq_true rfl) rfl (w_X2_takeFrom_56_0 k)
set_option maxRecDepth 100000 in
theorem w_X2_takeFrom_56_22 {G : dh_G} {h : dh_H} {Q : Option Value → dh_H → Prop} (k : Q none h) : dh_J G mX2_takeFrom 22 [none, none, none] [] h Q := by
  exact a_vret dX2_takeFrom_22 rfl k
set_option maxRecDepth 100000 in
theorem w_X2_takeFrom_58_0 {G : dh_G} {h : dh_H} {Q : Option Value → dh_H → Prop} (k : dh_C G mX8_saveTo [.ref 19, .ref 59, .int (nI 0)] (dh_s (dh_s h 58 0 (nI 1)) 58 1 (h 54 0)) (fun v h1 => dh_J G mX2_takeFrom 22 [none, none, none] (v.toList ++ []) h1 Q)) : dh_J G mX2_takeFrom 0 [some (.ref 58), some (.ref 19), some (.ref 54)] [] h Q := by
  refine a_aload_n dX2_takeFrom_0 rfl ?_
  refine a_iconst dX2_takeFrom_1 (v := nI 1) (by decide) ?_
  refine a_put dX2_takeFrom_2 fF_RX2_15 rfl rfl (by decide) (by decide) ?_
  refine a_aload_n dX2_takeFrom_5 rfl ?_
  refine a_aload_n dX2_takeFrom_6 rfl ?_
  refine a_getI dX2_takeFrom_7 fF_RX2_19 rfl rfl ?_
  refine a_put dX2_takeFrom_10 fF_RX2_25 rfl rfl rfl rfl ?_
  refine a_aload_n dX2_takeFrom_13 rfl ?_
  refine a_aload_n dX2_takeFrom_14 rfl ?_
  refine a_getR dX2_takeFrom_15 fF_RX2_9 rfl rfl ?_
  refine a_iconst dX2_takeFrom_18 (v := nI 0) (by decide) ?_
  refine dh_drop 0 ?_
  refine dh_drop 1 ?_
  refine dh_drop 2 ?_
  exact a_callV2 dX2_takeFrom_19 (dh_Y_up cY_RX2_28 (by decide)) rfl rfl (Nat.le_of_ble_eq_true rfl) k
theorem e_X2_takeFrom_58 {G : dh_G} {h : dh_H} {Q : Option Value → dh_H → Prop} (k : dh_C G mX8_saveTo [.ref 19, .ref 59, .int (nI 0)] (dh_s (dh_s h 58 0 (nI 1)) 58 1 (h 54 0)) (fun v h1 => dh_J G mX2_takeFrom 22 [none, none, none] (v.toList ++ []) h1 Q)) : dh_C G mX2_takeFrom [.ref 58, .ref 19, .ref 54] h Q := dh_C_of [some (.ref 58), some (.ref 19), some (.ref 54)] (by decide) (Nat.le_of_ble_eq_true rfl) rfl (w_X2_takeFrom_58_0 k)
set_option maxRecDepth 100000 in
theorem w_X2_takeFrom_58_22 {G : dh_G} {h : dh_H} {Q : Option Value → dh_H → Prop} (k : Q none h) : dh_J G mX2_takeFrom 22 [none, none, none] [] h Q := by
  exact a_vret dX2_takeFrom_22 rfl k
set_option maxRecDepth 100000 in
theorem w_X2_putInto_56_0 {G : dh_G} {h : dh_H} {Q : Option Value → dh_H → Prop} (k : dh_C G mX8_loadFrom [.ref 19, .ref 57, .int (nI 0)] h (fun v h1 => dh_J G mX2_putInto 9 [some (.ref 56), none, some (.ref 54)] (v.toList ++ []) h1 Q)) : dh_J G mX2_putInto 0 [some (.ref 56), some (.ref 19), some (.ref 54)] [] h Q := by
  refine a_aload_n dX2_putInto_0 rfl ?_
  refine a_aload_n dX2_putInto_1 rfl ?_
  refine a_getR dX2_putInto_2 fF_RX2_9 rfl rfl ?_
  refine a_iconst dX2_putInto_5 (v := nI 0) (by decide) ?_
  refine dh_drop 1 ?_
  exact a_callV2 dX2_putInto_6 (dh_Y_up cY_RX2_32 (by decide)) rfl rfl (Nat.le_of_ble_eq_true rfl) k
theorem e_X2_putInto_56 {G : dh_G} {h : dh_H} {Q : Option Value → dh_H → Prop} (k : dh_C G mX8_loadFrom [.ref 19, .ref 57, .int (nI 0)] h (fun v h1 => dh_J G mX2_putInto 9 [some (.ref 56), none, some (.ref 54)] (v.toList ++ []) h1 Q)) : dh_C G mX2_putInto [.ref 56, .ref 19, .ref 54] h Q := dh_C_of [some (.ref 56), some (.ref 19), some (.ref 54)] (by decide) (Nat.le_of_ble_eq_true rfl) rfl (w_X2_putInto_56_0 k)
set_option maxRecDepth 100000 in
theorem w_X2_putInto_56_9 {G : dh_G} {h : dh_H} {Q : Option Value → dh_H → Prop} (k : Q none (dh_s h 54 0 (h 56 1))) : dh_J G mX2_putInto 9 [some (.ref 56), none, some (.ref 54)] [] h Q := by
  refine a_aload_n dX2_putInto_9 rfl ?_
  refine a_aload_n dX2_putInto_10 rfl ?_
  refine a_getI dX2_putInto_11 fF_RX2_25 rfl rfl ?_
  refine a_put dX2_putInto_14 fF_RX2_19 rfl rfl rfl rfl ?_
  exact a_vret dX2_putInto_17 rfl k
set_option maxRecDepth 100000 in
theorem w_X2_putInto_58_0 {G : dh_G} {h : dh_H} {Q : Option Value → dh_H → Prop} (k : dh_C G mX8_loadFrom [.ref 19, .ref 59, .int (nI 0)] h (fun v h1 => dh_J G mX2_putInto 9 [some (.ref 58), none, some (.ref 54)] (v.toList ++ []) h1 Q)) : dh_J G mX2_putInto 0 [some (.ref 58), some (.ref 19), some (.ref 54)] [] h Q := by
  refine a_aload_n dX2_putInto_0 rfl ?_
  refine a_aload_n dX2_putInto_1 rfl ?_
  refine a_getR dX2_putInto_2 fF_RX2_9 rfl rfl ?_
  refine a_iconst dX2_putInto_5 (v := nI 0) (by decide) ?_
  refine dh_drop 1 ?_
  exact a_callV2 dX2_putInto_6 (dh_Y_up cY_RX2_32 (by decide)) rfl rfl (Nat.le_of_ble_eq_true rfl) k
theorem e_X2_putInto_58 {G : dh_G} {h : dh_H} {Q : Option Value → dh_H → Prop} (k : dh_C G mX8_loadFrom [.ref 19, .ref 59, .int (nI 0)] h (fun v h1 => dh_J G mX2_putInto 9 [some (.ref 58), none, some (.ref 54)] (v.toList ++ []) h1 Q)) : dh_C G mX2_putInto [.ref 58, .ref 19, .ref 54] h Q := dh_C_of [some (.ref 58), some (.ref 19), some (.ref 54)] (by decide) (Nat.le_of_ble_eq_true rfl) rfl (w_X2_putInto_58_0 k)
set_option maxRecDepth 100000 in
theorem w_X2_putInto_58_9 {G : dh_G} {h : dh_H} {Q : Option Value → dh_H → Prop} (k : Q none (dh_s h 54 0 (h 58 1))) : dh_J G mX2_putInto 9 [some (.ref 58), none, some (.ref 54)] [] h Q := by
  refine a_aload_n dX2_putInto_9 rfl ?_
  refine a_aload_n dX2_putInto_10 rfl ?_
  refine a_getI dX2_putInto_11 fF_RX2_25 rfl rfl ?_
  refine a_put dX2_putInto_14 fF_RX2_19 rfl rfl rfl rfl ?_
  exact a_vret dX2_putInto_17 rfl k
