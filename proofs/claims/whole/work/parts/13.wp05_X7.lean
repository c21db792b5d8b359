set_option maxRecDepth 100000 in
theorem w_X7_clear_0 {G : dh_G} {h : dh_H} {Q : Option Value → dh_H → Prop} (k : Q none (dh_s h 37 1 (nI 0))) : dh_J G mX7_clear 0 [some (.ref 37)] [] h Q := by
  refine a_aload_n dX7_clear_0 rfl ?_
  refine a_iconst dX7_clear_1 (v := nI 0) (by decide) ?_
  refine a_put dX7_clear_2 fF_RX7_40 rfl rfl rfl rfl ?_
  exact a_vret dX7_clear_5 rfl k
theorem e_X7_clear {G : dh_G} {h : dh_H} {Q : Option Value → dh_H → Prop} (k : Q none (dh_s h 37 1 (nI 0))) : dh_C G mX7_clear [.ref 37] h Q := dh_C_of [some (.ref 37)] (by decide) (Nat.le_of_ble_eq_true rfl) rfl (w_X7_clear_0 k)
set_option maxRecDepth 100000 in
theorem w_X7_append_0 {G : dh_G} {x1 x2 x3 : Int32} {h : dh_H} {Q : Option Value → dh_H → Prop} (k : (((h 37 1) < (nI 8)) → (vp_in (h 37 1) 8) ∧ (vp_in (h 37 1) 8) ∧ (vp_in (h 37 1) 8) ∧ Q (some (.int (nI 1))) (dh_s (dh_s (dh_s (dh_s h 38 (h 37 1).toNatClampNeg x1) 39 (h 37 1).toNatClampNeg x2) 40 (h 37 1).toNatClampNeg (vp_nar .boolean x3)) 37 1 ((h 37 1) + (nI 1)))) ∧ ((¬ (h 37 1) < (nI 8)) → Q (some (.int (nI 0))) h)) : dh_J G mX7_append 0 [some (.ref 37), some (.int (x1)), some (.int (x2)), some (.int (x3))] [] h Q := by
  refine a_aload_n dX7_append_0 rfl ?_
  refine a_getI dX7_append_1 fF_RX7_40 rfl rfl ?_
  refine a_bipush dX7_append_4 (v := nI 8) (by decide) ?_
  refine a_icmp_lt 11 dX7_append_6 (by decide) (fun c1 => ?_) (fun c1 => ?_)
  · replace k := k.1 c1
    refine a_aload_n dX7_append_11 rfl ?_
    refine a_getR dX7_append_12 fF_RX7_9 rfl rfl ?_
    refine a_aload_n dX7_append_15 rfl ?_
    refine a_getI dX7_append_16 fF_RX7_40 rfl rfl ?_
    refine a_iload_n dX7_append_19 rfl ?_
    obtain ⟨e2, k⟩ := k
    refine a_iast dX7_append_20 rfl e2 ?_
    refine a_aload_n dX7_append_21 rfl ?_
    refine a_getR dX7_append_22 fF_RX7_15 rfl rfl ?_
    refine a_aload_n dX7_append_25 rfl ?_
    refine a_getI dX7_append_26 fF_RX7_40 rfl rfl ?_
    refine a_iload_n dX7_append_29 rfl ?_
    obtain ⟨e3, k⟩ := k
    refine a_iast dX7_append_30 rfl e3 ?_
    refine a_aload_n dX7_append_31 rfl ?_
    refine a_getR dX7_append_32 fF_RX7_18 rfl rfl ?_
    refine a_aload_n dX7_append_35 rfl ?_
    refine a_getI dX7_append_36 fF_RX7_40 rfl rfl ?_
    refine a_iload_n dX7_append_39 rfl ?_
    obtain ⟨e4, k⟩ := k
    refine a_zast dX7_append_40 rfl e4 ?_
    refine a_aload_n dX7_append_41 rfl ?_
    refine a_dup dX7_append_42 rfl ?_
    refine a_getI dX7_append_43 fF_RX7_40 rfl rfl ?_
    refine a_iconst dX7_append_46 (v := nI 1) (by decide) ?_
    refine a_iadd dX7_append_47 ?_
    refine a_put dX7_append_48 fF_RX7_40 rfl rfl rfl rfl ?_
    refine a_iconst dX7_append_51 (v := nI 1) (by decide) ?_
    exact a_zret dX7_append_52 rfl (by decide) k
  · replace k := k.2 c1
    refine a_iconst dX7_append_9 (v := nI 0) (by decide) ?_
    exact a_zret dX7_append_10 rfl (by decide) k
theorem e_X7_append {G : dh_G} {x1 x2 x3 : Int32} {h : dh_H} {Q : Option Value → dh_H → Prop} (k : (((h 37 1) < (nI 8)) → (vp_in (h 37 1) 8) ∧ (vp_in (h 37 1) 8) ∧ (vp_in (h 37 1) 8) ∧ Q (some (.int (nI 1))) (dh_s (dh_s (dh_s (dh_s h 38 (h 37 1).toNatClampNeg x1) 39 (h 37 1).toNatClampNeg x2) 40 (h 37 1).toNatClampNeg (vp_nar .boolean x3)) 37 1 ((h 37 1) + (nI 1)))) ∧ ((¬ (h 37 1) < (nI 8)) → Q (some (.int (nI 0))) h)) : dh_C G mX7_append [.ref 37, .int (x1), .int (x2), .int (x3)] h Q := dh_C_of [some (.ref 37), some (.int (x1)), some (.int (x2)), some (.int (x3))] (by decide) (Nat.le_of_ble_eq_true rfl) rfl (w_X7_append_0 k)
set_option maxRecDepth 100000 in
theorem w_X7_solve_0 {G : dh_G} {h : dh_H} {Q : Option Value → dh_H → Prop} (k : dh_J G mX7_solve 2 [some (.ref 37), some (.int (nI 0)), none] [] h Q) : dh_J G mX7_solve 0 [some (.ref 37), none, none] [] h Q := by
  refine a_iconst dX7_solve_0 (v := nI 0) (by decide) ?_
  refine a_istore_n dX7_solve_1 (by decide) rfl ?_
  exact k
theorem e_X7_solve {G : dh_G} {h : dh_H} {Q : Option Value → dh_H → Prop} (k : dh_J G mX7_solve 2 [some (.ref 37), some (.int (nI 0)), none] [] h Q) : dh_C G mX7_solve [.ref 37] h Q := dh_C_of [some (.ref 37), none, none] (by decide) (Nat.le_of_ble_eq_true rfl) rfl (w_X7_solve_0 k)
set_option maxRecDepth 100000 in
theorem w_X7_solve_2 {G : dh_G} {x1 : Int32} {h : dh_H} {Q : Option Value → dh_H → Prop} (k : (((h 3 3) ≤ x1) → dh_C G mX7_countWays [.ref 37] h (fun v h1 => dh_J G mX7_solve 79 [none, none, none] (v.toList ++ []) h1 Q)) ∧ ((¬ (h 3 3) ≤ x1) → (vp_in x1 6) ∧ dh_J G mX7_solve 22 [some (.ref 37), some (.int (x1)), some (.int (nI 0))] [] (dh_s h 41 x1.toNatClampNeg (nI 0)) Q)) : dh_J G mX7_solve 2 [some (.ref 37), some (.int (x1)), none] [] h Q := by
  refine a_iload_n dX7_solve_2 rfl ?_
  refine a_aload_n dX7_solve_3 rfl ?_
  refine a_getR dX7_solve_4 fF_RX7_36 rfl rfl ?_
  refine a_getI dX7_solve_7 fF_RX7_44 rfl rfl ?_
  refine a_icmp_ge 75 dX7_solve_10 (by decide) (fun c1 => ?_) (fun c1 => ?_)
  · replace k := k.1 c1
    refine a_aload_n dX7_solve_75 rfl ?_
    refine dh_drop 0 ?_
    refine dh_drop 1 ?_
    exact a_callV0 dX7_solve_76 (dh_Y_up cY_RX7_56 (by decide)) rfl rfl (Nat.le_of_ble_eq_true rfl) k
  · replace k := k.2 c1
    refine a_aload_n dX7_solve_13 rfl ?_
    refine a_getR dX7_solve_14 fF_RX7_22 rfl rfl ?_
    refine a_iload_n dX7_solve_17 rfl ?_
    refine a_iconst dX7_solve_18 (v := nI 0) (by decide) ?_
    obtain ⟨e2, k⟩ := k
    refine a_iast dX7_solve_19 rfl e2 ?_
    refine a_iconst dX7_solve_20 (v := nI 0) (by decide) ?_
    refine a_istore_n dX7_solve_21 (by decide) rfl ?_
    exact k
set_option maxRecDepth 100000 in
theorem w_X7_solve_22 {G : dh_G} {x1 x2 : Int32} {h : dh_H} {Q : Option Value → dh_H → Prop} (k : (((h 3 4) ≤ x2) → dh_J G mX7_solve 2 [some (.ref 37), some (.int (x1 + (nI 1))), none] [] h Q) ∧ ((¬ (h 3 4) ≤ x2) → (vp_in x1 6) ∧ ∃ r2, ([45, 46, 47, 48, 49, 50][x1.toNatClampNeg]? = some r2) ∧ (dh_LAY[r2]? = some (.inr (0, 6, []))) ∧ (vp_in x2 6) ∧ dh_C G mX7_fits [.ref 37, .int (x1), .int (x2)] (dh_s h r2 x2.toNatClampNeg (nI 0)) (fun v h1 => dh_J G mX7_solve 48 [some (.ref 37), some (.int (x1)), some (.int (x2))] (v.toList ++ []) h1 Q))) : dh_J G mX7_solve 22 [some (.ref 37), some (.int (x1)), some (.int (x2))] [] h Q := by
  refine a_iload_n dX7_solve_22 rfl ?_
  refine a_aload_n dX7_solve_23 rfl ?_
  refine a_getR dX7_solve_24 fF_RX7_36 rfl rfl ?_
  refine a_getI dX7_solve_27 fF_RX7_49 rfl rfl ?_
  refine a_icmp_ge 69 dX7_solve_30 (by decide) (fun c1 => ?_) (fun c1 => ?_)
  · replace k := k.1 c1
    refine a_iinc dX7_solve_69 (v := x1 + (nI 1)) rfl (by rfl) (by decide) rfl ?_
    refine a_goto 2 dX7_solve_72 (by decide) ?_
    refine dh_drop 2 ?_
    exact k
  · replace k := k.2 c1
    refine a_aload_n dX7_solve_33 rfl ?_
    refine a_getR dX7_solve_34 fF_RX7_33 rfl rfl ?_
    refine a_iload_n dX7_solve_37 rfl ?_
    obtain ⟨e3, r2, e4, e5, k⟩ := k
    refine a_aald dX7_solve_38 rfl (Or.inr rfl) e3 e4 ?_
    refine a_iload_n dX7_solve_39 rfl ?_
    refine a_iconst dX7_solve_40 (v := nI 0) (by decide) ?_
    obtain ⟨e6, k⟩ := k
    refine a_iast dX7_solve_41 e5 e6 ?_
    refine a_aload_n dX7_solve_42 rfl ?_
    refine a_iload_n dX7_solve_43 rfl ?_
    refine a_iload_n dX7_solve_44 rfl ?_
    exact a_callV2 dX7_solve_45 (dh_Y_up cY_RX7_52 (by decide)) rfl rfl (Nat.le_of_ble_eq_true rfl) k
set_option maxRecDepth 100000 in
theorem w_X7_solve_48 {G : dh_G} {x1 x2 s0 : Int32} {h : dh_H} {Q : Option Value → dh_H → Prop} (k : ((s0 = 0) → dh_J G mX7_solve 22 [some (.ref 37), some (.int (x1)), some (.int (x2 + (nI 1)))] [] h Q) ∧ ((¬ s0 = 0) → (vp_in x1 6) ∧ (vp_in x1 6) ∧ dh_J G mX7_solve 22 [some (.ref 37), some (.int (x1)), some (.int (x2 + (nI 1)))] [] (dh_s h 41 x1.toNatClampNeg ((h 41 x1.toNatClampNeg) ||| ((nI 1) <<< (x2 &&& 31)))) Q)) : dh_J G mX7_solve 48 [some (.ref 37), some (.int (x1)), some (.int (x2))] [.int (s0)] h Q := by
  refine a_if_eq 63 dX7_solve_48 (by decide) (fun c1 => ?_) (fun c1 => ?_)
  · replace k := k.1 c1
    refine a_iinc dX7_solve_63 (v := x2 + (nI 1)) rfl (by rfl) (by decide) rfl ?_
    refine a_goto 22 dX7_solve_66 (by decide) ?_
    exact k
  · replace k := k.2 c1
    refine a_aload_n dX7_solve_51 rfl ?_
    refine a_getR dX7_solve_52 fF_RX7_22 rfl rfl ?_
    refine a_iload_n dX7_solve_55 rfl ?_
    refine a_dup2 dX7_solve_56 rfl rfl ?_
    obtain ⟨e2, k⟩ := k
    refine a_iald dX7_solve_57 rfl e2 ?_
    refine a_iconst dX7_solve_58 (v := nI 1) (by decide) ?_
    refine a_iload_n dX7_solve_59 rfl ?_
    refine a_ishl dX7_solve_60 ?_
    refine a_ior dX7_solve_61 ?_
    obtain ⟨e3, k⟩ := k
    refine a_iast dX7_solve_62 rfl e3 ?_
    refine a_iinc dX7_solve_63 (v := x2 + (nI 1)) rfl (by rfl) (by decide) rfl ?_
    refine a_goto 22 dX7_solve_66 (by decide) ?_
    exact k
set_option maxRecDepth 100000 in
theorem w_X7_solve_79 {G : dh_G} {h : dh_H} {Q : Option Value → dh_H → Prop} (k : Q none h) : dh_J G mX7_solve 79 [none, none, none] [] h Q := by
  exact a_vret dX7_solve_79 rfl k
set_option maxRecDepth 100000 in
theorem w_X7_fits_0 {G : dh_G} {x1 x2 : Int32} {h : dh_H} {Q : Option Value → dh_H → Prop} (k : dh_J G mX7_fits 2 [some (.ref 37), some (.int (x1)), some (.int (x2)), some (.int (nI 0))] [] h Q) : dh_J G mX7_fits 0 [some (.ref 37), some (.int (x1)), some (.int (x2)), none] [] h Q := by
  refine a_iconst dX7_fits_0 (v := nI 0) (by decide) ?_
  refine a_istore_n dX7_fits_1 (by decide) rfl ?_
  exact k
theorem e_X7_fits {G : dh_G} {x1 x2 : Int32} {h : dh_H} {Q : Option Value → dh_H → Prop} (k : dh_J G mX7_fits 2 [some (.ref 37), some (.int (x1)), some (.int (x2)), some (.int (nI 0))] [] h Q) : dh_C G mX7_fits [.ref 37, .int (x1), .int (x2)] h Q := dh_C_of [some (.ref 37), some (.int (x1)), some (.int (x2)), none] (by decide) (Nat.le_of_ble_eq_true rfl) rfl (w_X7_fits_0 k)
set_option maxRecDepth 100000 in
theorem w_X7_fits_2 {G : dh_G} {x1 x2 x3 : Int32} {h : dh_H} {Q : Option Value → dh_H → Prop} (k : (((h 37 1) ≤ x3) → Q (some (.int (nI 1))) h) ∧ ((¬ (h 37 1) ≤ x3) → (vp_in x3 8) ∧ ((¬ (h 38 x3.toNatClampNeg) = x1) → dh_J G mX7_fits 2 [some (.ref 37), some (.int (x1)), some (.int (x2)), some (.int (x3 + (nI 1)))] [] h Q) ∧ (((h 38 x3.toNatClampNeg) = x1) → (vp_in x3 8) ∧ dh_C G mX5_takesOwning [.ref 3, .int (x1), .int (x2), .int (h 39 x3.toNatClampNeg)] h (fun v h1 => dh_J G mX7_fits 35 [some (.ref 37), some (.int (x1)), some (.int (x2)), some (.int (x3))] (v.toList ++ []) h1 Q)))) : dh_J G mX7_fits 2 [some (.ref 37), some (.int (x1)), some (.int (x2)), some (.int (x3))] [] h Q := by
  refine a_iload_n dX7_fits_2 rfl ?_
  refine a_aload_n dX7_fits_3 rfl ?_
  refine a_getI dX7_fits_4 fF_RX7_40 rfl rfl ?_
  refine a_icmp_ge 52 dX7_fits_7 (by decide) (fun c1 => ?_) (fun c1 => ?_)
  · replace k := k.1 c1
    refine a_iconst dX7_fits_52 (v := nI 1) (by decide) ?_
    exact a_zret dX7_fits_53 rfl (by decide) k
  · replace k := k.2 c1
    refine a_aload_n dX7_fits_10 rfl ?_
    refine a_getR dX7_fits_11 fF_RX7_9 rfl rfl ?_
    refine a_iload_n dX7_fits_14 rfl ?_
    obtain ⟨e2, k⟩ := k
    refine a_iald dX7_fits_15 rfl e2 ?_
    refine a_iload_n dX7_fits_16 rfl ?_
    refine a_icmp_ne 46 dX7_fits_17 (by decide) (fun c3 => ?_) (fun c3 => ?_)
    · replace k := k.1 c3
      refine a_iinc dX7_fits_46 (v := x3 + (nI 1)) rfl (by rfl) (by decide) rfl ?_
      refine a_goto 2 dX7_fits_49 (by decide) ?_
      exact k
    · replace k := k.2 c3
      refine a_aload_n dX7_fits_20 rfl ?_
      refine a_getR dX7_fits_21 fF_RX7_36 rfl rfl ?_
      refine a_iload_n dX7_fits_24 rfl ?_
      refine a_iload_n dX7_fits_25 rfl ?_
      refine a_aload_n dX7_fits_26 rfl ?_
      refine a_getR dX7_fits_27 fF_RX7_15 rfl rfl ?_
      refine a_iload_n dX7_fits_30 rfl ?_
      obtain ⟨e4, k⟩ := k
      refine a_iald dX7_fits_31 rfl e4 ?_
      exact a_callV3 dX7_fits_32 (dh_Y_up cY_RX7_59 (by decide)) rfl rfl (Nat.le_of_ble_eq_true rfl) k
set_option maxRecDepth 100000 in
theorem w_X7_fits_35 {G : dh_G} {x1 x2 x3 s0 : Int32} {h : dh_H} {Q : Option Value → dh_H → Prop} (k : (vp_in x3 8) ∧ ((s0 = (h 40 x3.toNatClampNeg)) → dh_J G mX7_fits 2 [some (.ref 37), some (.int (x1)), some (.int (x2)), some (.int (x3 + (nI 1)))] [] h Q) ∧ ((¬ s0 = (h 40 x3.toNatClampNeg)) → Q (some (.int (nI 0))) h)) : dh_J G mX7_fits 35 [some (.ref 37), some (.int (x1)), some (.int (x2)), some (.int (x3))] [.int (s0)] h Q := by
  refine a_aload_n dX7_fits_35 rfl ?_
  refine a_getR dX7_fits_36 fF_RX7_18 rfl rfl ?_
  refine a_iload_n dX7_fits_39 rfl ?_
  obtain ⟨e1, k⟩ := k
  refine a_zald dX7_fits_40 rfl e1 ?_
  refine a_icmp_eq 46 dX7_fits_41 (by decide) (fun c2 => ?_) (fun c2 => ?_)
  · replace k := k.1 c2
    refine a_iinc dX7_fits_46 (v := x3 + (nI 1)) rfl (by rfl) (by decide) rfl ?_
    refine a_goto 2 dX7_fits_49 (by decide) ?_
    exact k
  · replace k := k.2 c2
    refine a_iconst dX7_fits_44 (v := nI 0) (by decide) ?_
    exact a_zret dX7_fits_45 rfl (by decide) k
set_option maxRecDepth 100000 in
theorem w_X7_countWays_0 {G : dh_G} {h : dh_H} {Q : Option Value → dh_H → Prop} (k : dh_J G mX7_countWays 12 [some (.ref 37), some (.int ((nI 1) <<< ((h 3 4) &&& 31))), some (.int (nI 0))] [] h Q) : dh_J G mX7_countWays 0 [some (.ref 37), none, none] [] h Q := by
  refine a_iconst dX7_countWays_0 (v := nI 1) (by decide) ?_
  refine a_aload_n dX7_countWays_1 rfl ?_
  refine a_getR dX7_countWays_2 fF_RX7_36 rfl rfl ?_
  refine a_getI dX7_countWays_5 fF_RX7_49 rfl rfl ?_
  refine a_ishl dX7_countWays_8 ?_
  refine a_istore_n dX7_countWays_9 (by decide) rfl ?_
  refine a_iconst dX7_countWays_10 (v := nI 0) (by decide) ?_
  refine a_istore_n dX7_countWays_11 (by decide) rfl ?_
  exact k
theorem e_X7_countWays {G : dh_G} {h : dh_H} {Q : Option Value → dh_H → Prop} (k : dh_J G mX7_countWays 12 [some (.ref 37), some (.int ((nI 1) <<< ((h 3 4) &&& 31))), some (.int (nI 0))] [] h Q) : dh_C G mX7_countWays [.ref 37] h Q := dh_C_of [some (.ref 37), none, none] (by decide) (Nat.le_of_ble_eq_true rfl) rfl (w_X7_countWays_0 k)
set_option maxRecDepth 100000 in
theorem w_X7_countWays_12 {G : dh_G} {x1 x2 : Int32} {h : dh_H} {Q : Option Value → dh_H → Prop} (k : ((x1 ≤ x2) → dh_J G mX7_countWays 63 [some (.ref 37), none, some (.int ((if nI 64 < x1 then nI 64 else x1) - (nI 1)))] [] h Q) ∧ ((¬ x1 ≤ x2) → (((nI 64) ≤ x2) → dh_J G mX7_countWays 63 [some (.ref 37), none, some (.int ((if nI 64 < x1 then nI 64 else x1) - (nI 1)))] [] h Q) ∧ ((¬ (nI 64) ≤ x2) → ((¬ x2 = 0) → dh_C G mJ6_bitCount_0f7a4 [.int (x2)] h (fun v h1 => dh_J G mX7_countWays 42 [some (.ref 37), some (.int (x1)), some (.int (x2))] (v.toList ++ [.int (x2), .ref 37, .int (x2), .ref 42]) h1 Q)) ∧ ((x2 = 0) → dh_J G mX7_countWays 47 [some (.ref 37), some (.int (x1)), some (.int (x2))] [.int (nI 1), .int (x2), .ref 42] h Q)))) : dh_J G mX7_countWays 12 [some (.ref 37), some (.int (x1)), some (.int (x2))] [] h Q := by
  refine a_iload_n dX7_countWays_12 rfl ?_
  refine a_iload_n dX7_countWays_13 rfl ?_
  refine a_icmp_ge 54 dX7_countWays_14 (by decide) (fun c1 => ?_) (fun c1 => ?_)
  · replace k := k.1 c1
    refine a_iload_n dX7_countWays_54 rfl ?_
    refine a_bipush dX7_countWays_55 (v := nI 64) (by decide) ?_
    refine a_min dX7_countWays_57 lM_RX7_73 wMmin (by decide) (Nat.le_of_ble_eq_true rfl) ?_
    refine a_iconst dX7_countWays_60 (v := nI 1) (by decide) ?_
    refine a_isub dX7_countWays_61 ?_
    refine a_istore_n dX7_countWays_62 (by decide) rfl ?_
    refine dh_drop 1 ?_
    exact k
  · replace k := k.2 c1
    refine a_iload_n dX7_countWays_17 rfl ?_
    refine a_bipush dX7_countWays_18 (v := nI 64) (by decide) ?_
    refine a_icmp_ge 54 dX7_countWays_20 (by decide) (fun c2 => ?_) (fun c2 => ?_)
    · replace k := k.1 c2
      refine a_iload_n dX7_countWays_54 rfl ?_
      refine a_bipush dX7_countWays_55 (v := nI 64) (by decide) ?_
      refine a_min dX7_countWays_57 lM_RX7_73 wMmin (by decide) (Nat.le_of_ble_eq_true rfl) ?_
      refine a_iconst dX7_countWays_60 (v := nI 1) (by decide) ?_
      refine a_isub dX7_countWays_61 ?_
      refine a_istore_n dX7_countWays_62 (by decide) rfl ?_
      refine dh_drop 1 ?_
      exact k
    · replace k := k.2 c2
      refine a_aload_n dX7_countWays_23 rfl ?_
      refine a_getR dX7_countWays_24 fF_RX7_25 rfl rfl ?_
      refine a_iload_n dX7_countWays_27 rfl ?_
      refine a_iload_n dX7_countWays_28 rfl ?_
      refine a_if_ne 36 dX7_countWays_29 (by decide) (fun c3 => ?_) (fun c3 => ?_)
      · replace k := k.1 c3
        refine a_aload_n dX7_countWays_36 rfl ?_
        refine a_iload_n dX7_countWays_37 rfl ?_
        refine a_iload_n dX7_countWays_38 rfl ?_
        exact a_callS1 dX7_countWays_39 (dh_Y_up cY_RX7_63 (by decide)) (Nat.le_of_ble_eq_true rfl) k
      · replace k := k.2 c3
        refine a_iconst dX7_countWays_32 (v := nI 1) (by decide) ?_
        refine a_goto 47 dX7_countWays_33 (by decide) ?_
        exact k
set_option maxRecDepth 100000 in
theorem w_X7_countWays_42 {G : dh_G} {x1 x2 s1 s3 s4 : Int32} {h : dh_H} {Q : Option Value → dh_H → Prop} (k : dh_C G mX7_sumAhead [.ref 37, .int (s3), .int (s4 - (nI 1))] h (fun v h1 => dh_J G mX7_countWays 47 [some (.ref 37), some (.int (x1)), some (.int (x2))] (v.toList ++ [.int (s1), .ref 42]) h1 Q)) : dh_J G mX7_countWays 42 [some (.ref 37), some (.int (x1)), some (.int (x2))] [.int (s4), .int (s3), .ref 37, .int (s1), .ref 42] h Q := by
  refine a_iconst dX7_countWays_42 (v := nI 1) (by decide) ?_
  refine a_isub dX7_countWays_43 ?_
  exact a_callV2 dX7_countWays_44 (dh_Y_up cY_RX7_69 (by decide)) rfl rfl (Nat.le_of_ble_eq_true rfl) k
set_option maxRecDepth 100000 in
theorem w_X7_countWays_47 {G : dh_G} {x1 x2 s1 s2 : Int32} {h : dh_H} {Q : Option Value → dh_H → Prop} (k : (vp_in s1 64) ∧ dh_J G mX7_countWays 12 [some (.ref 37), some (.int (x1)), some (.int (x2 + (nI 1)))] [] (dh_s h 42 s1.toNatClampNeg s2) Q) : dh_J G mX7_countWays 47 [some (.ref 37), some (.int (x1)), some (.int (x2))] [.int (s2), .int (s1), .ref 42] h Q := by
  obtain ⟨e1, k⟩ := k
  refine a_iast dX7_countWays_47 rfl e1 ?_
  refine a_iinc dX7_countWays_48 (v := x2 + (nI 1)) rfl (by rfl) (by decide) rfl ?_
  refine a_goto 12 dX7_countWays_51 (by decide) ?_
  exact k
set_option maxRecDepth 100000 in
theorem w_X7_countWays_63 {G : dh_G} {x2 : Int32} {h : dh_H} {Q : Option Value → dh_H → Prop} (k : ((x2 < 0) → Q none (dh_s h 37 6 (h 43 0))) ∧ ((¬ x2 < 0) → dh_C G mJ6_bitCount_0f7a4 [.int (x2)] h (fun v h1 => dh_J G mX7_countWays 78 [some (.ref 37), none, some (.int (x2))] (v.toList ++ [.int (x2), .ref 37, .int (x2), .ref 43]) h1 Q))) : dh_J G mX7_countWays 63 [some (.ref 37), none, some (.int (x2))] [] h Q := by
  refine a_iload_n dX7_countWays_63 rfl ?_
  refine a_if_lt 88 dX7_countWays_64 (by decide) (fun c1 => ?_) (fun c1 => ?_)
  · replace k := k.1 c1
    refine a_aload_n dX7_countWays_88 rfl ?_
    refine a_aload_n dX7_countWays_89 rfl ?_
    refine a_getR dX7_countWays_90 fF_RX7_28 rfl rfl ?_
    refine a_iconst dX7_countWays_93 (v := nI 0) (by decide) ?_
    refine a_ialdN dX7_countWays_94 rfl (j := 0) rfl (by decide) (by decide) ?_
    refine a_put dX7_countWays_95 fF_RX7_81 rfl rfl rfl rfl ?_
    exact a_vret dX7_countWays_98 rfl k
  · replace k := k.2 c1
    refine a_aload_n dX7_countWays_67 rfl ?_
    refine a_getR dX7_countWays_68 fF_RX7_28 rfl rfl ?_
    refine a_iload_n dX7_countWays_71 rfl ?_
    refine a_aload_n dX7_countWays_72 rfl ?_
    refine a_iload_n dX7_countWays_73 rfl ?_
    refine a_iload_n dX7_countWays_74 rfl ?_
    exact a_callS1 dX7_countWays_75 (dh_Y_up cY_RX7_63 (by decide)) (Nat.le_of_ble_eq_true rfl) k
set_option maxRecDepth 100000 in
theorem w_X7_countWays_78 {G : dh_G} {x2 s1 s3 s4 : Int32} {h : dh_H} {Q : Option Value → dh_H → Prop} (k : dh_C G mX7_sumBehind [.ref 37, .int (s3), .int (s4)] h (fun v h1 => dh_J G mX7_countWays 81 [some (.ref 37), none, some (.int (x2))] (v.toList ++ [.int (s1), .ref 43]) h1 Q)) : dh_J G mX7_countWays 78 [some (.ref 37), none, some (.int (x2))] [.int (s4), .int (s3), .ref 37, .int (s1), .ref 43] h Q := by
  exact a_callV2 dX7_countWays_78 (dh_Y_up cY_RX7_78 (by decide)) rfl rfl (Nat.le_of_ble_eq_true rfl) k
set_option maxRecDepth 100000 in
theorem w_X7_countWays_81 {G : dh_G} {x2 s1 s2 : Int32} {h : dh_H} {Q : Option Value → dh_H → Prop} (k : (vp_in s1 64) ∧ dh_J G mX7_countWays 63 [some (.ref 37), none, some (.int (x2 + (-1 : Int32)))] [] (dh_s h 43 s1.toNatClampNeg s2) Q) : dh_J G mX7_countWays 81 [some (.ref 37), none, some (.int (x2))] [.int (s2), .int (s1), .ref 43] h Q := by
  obtain ⟨e1, k⟩ := k
  refine a_iast dX7_countWays_81 rfl e1 ?_
  refine a_iinc dX7_countWays_82 (v := x2 + (-1 : Int32)) rfl (by rfl) (by decide) rfl ?_
  refine a_goto 63 dX7_countWays_85 (by decide) ?_
  exact k
set_option maxRecDepth 100000 in
theorem w_X7_sumAhead_0 {G : dh_G} {x1 x2 : Int32} {h : dh_H} {Q : Option Value → dh_H → Prop} (k : dh_J G mX7_sumAhead 5 [some (.ref 37), some (.int (x1)), some (.int (x2)), some (.int (nI 0)), some (.int (nI 0))] [] h Q) : dh_J G mX7_sumAhead 0 [some (.ref 37), some (.int (x1)), some (.int (x2)), none, none] [] h Q := by
  refine a_iconst dX7_sumAhead_0 (v := nI 0) (by decide) ?_
  refine a_istore_n dX7_sumAhead_1 (by decide) rfl ?_
  refine a_iconst dX7_sumAhead_2 (v := nI 0) (by decide) ?_
  refine a_istore dX7_sumAhead_3 (by decide) rfl ?_
  exact k
theorem e_X7_sumAhead {G : dh_G} {x1 x2 : Int32} {h : dh_H} {Q : Option Value → dh_H → Prop} (k : dh_J G mX7_sumAhead 5 [some (.ref 37), some (.int (x1)), some (.int (x2)), some (.int (nI 0)), some (.int (nI 0))] [] h Q) : dh_C G mX7_sumAhead [.ref 37, .int (x1), .int (x2)] h Q := dh_C_of [some (.ref 37), some (.int (x1)), some (.int (x2)), none, none] (by decide) (Nat.le_of_ble_eq_true rfl) rfl (w_X7_sumAhead_0 k)
set_option maxRecDepth 100000 in
theorem w_X7_sumAhead_5 {G : dh_G} {x1 x2 x3 x4 : Int32} {h : dh_H} {Q : Option Value → dh_H → Prop} (k : (((h 3 4) ≤ x4) → Q (some (.int (x3))) h) ∧ ((¬ (h 3 4) ≤ x4) → dh_C G mX5_hasChild [.ref 3, .int (x2)] h (fun v h1 => dh_J G mX7_sumAhead 25 [some (.ref 37), some (.int (x1)), some (.int (x2)), some (.int (x3)), some (.int (x4))] (v.toList ++ []) h1 Q))) : dh_J G mX7_sumAhead 5 [some (.ref 37), some (.int (x1)), some (.int (x2)), some (.int (x3)), some (.int (x4))] [] h Q := by
  refine a_iload dX7_sumAhead_5 rfl ?_
  refine a_aload_n dX7_sumAhead_7 rfl ?_
  refine a_getR dX7_sumAhead_8 fF_RX7_36 rfl rfl ?_
  refine a_getI dX7_sumAhead_11 fF_RX7_49 rfl rfl ?_
  refine a_icmp_ge 66 dX7_sumAhead_14 (by decide) (fun c1 => ?_) (fun c1 => ?_)
  · replace k := k.1 c1
    refine a_iload_n dX7_sumAhead_66 rfl ?_
    exact a_iret dX7_sumAhead_67 rfl k
  · replace k := k.2 c1
    refine a_aload_n dX7_sumAhead_17 rfl ?_
    refine a_getR dX7_sumAhead_18 fF_RX7_36 rfl rfl ?_
    refine a_iload_n dX7_sumAhead_21 rfl ?_
    exact a_callV1 dX7_sumAhead_22 (dh_Y_up cY_RX7_84 (by decide)) rfl rfl (Nat.le_of_ble_eq_true rfl) k
set_option maxRecDepth 100000 in
theorem w_X7_sumAhead_25 {G : dh_G} {x1 x2 x3 x4 s0 : Int32} {h : dh_H} {Q : Option Value → dh_H → Prop} (k : ((s0 = 0) → Q (some (.int (x3))) h) ∧ ((¬ s0 = 0) → (vp_in x2 6) ∧ dh_C G mX9_isIn [.int ((h 41 x2.toNatClampNeg) &&& x1), .int (x4)] h (fun v h1 => dh_J G mX7_sumAhead 41 [some (.ref 37), some (.int (x1)), some (.int (x2)), some (.int (x3)), some (.int (x4))] (v.toList ++ []) h1 Q))) : dh_J G mX7_sumAhead 25 [some (.ref 37), some (.int (x1)), some (.int (x2)), some (.int (x3)), some (.int (x4))] [.int (s0)] h Q := by
  refine a_if_eq 66 dX7_sumAhead_25 (by decide) (fun c1 => ?_) (fun c1 => ?_)
  · replace k := k.1 c1
    refine a_iload_n dX7_sumAhead_66 rfl ?_
    exact a_iret dX7_sumAhead_67 rfl k
  · replace k := k.2 c1
    refine a_aload_n dX7_sumAhead_28 rfl ?_
    refine a_getR dX7_sumAhead_29 fF_RX7_22 rfl rfl ?_
    refine a_iload_n dX7_sumAhead_32 rfl ?_
    obtain ⟨e2, k⟩ := k
    refine a_iald dX7_sumAhead_33 rfl e2 ?_
    refine a_iload_n dX7_sumAhead_34 rfl ?_
    refine a_iand dX7_sumAhead_35 ?_
    refine a_iload dX7_sumAhead_36 rfl ?_
    exact a_callS2 dX7_sumAhead_38 (dh_Y_up cY_RX7_88 (by decide)) (Nat.le_of_ble_eq_true rfl) k
set_option maxRecDepth 100000 in
theorem w_X7_sumAhead_41 {G : dh_G} {x1 x2 x3 x4 s0 : Int32} {h : dh_H} {Q : Option Value → dh_H → Prop} (k : ((s0 = 0) → dh_J G mX7_sumAhead 5 [some (.ref 37), some (.int (x1)), some (.int (x2)), some (.int (x3)), some (.int (x4 + (nI 1)))] [] h Q) ∧ ((¬ s0 = 0) → (vp_in (x1 &&& (((nI 1) <<< (x4 &&& 31)) ^^^ (-1 : Int32))) 64) ∧ dh_J G mX7_sumAhead 5 [some (.ref 37), some (.int (x1)), some (.int (x2)), some (.int (x3 + (h 42 (x1 &&& (((nI 1) <<< (x4 &&& 31)) ^^^ (-1 : Int32))).toNatClampNeg))), some (.int (x4 + (nI 1)))] [] h Q)) : dh_J G mX7_sumAhead 41 [some (.ref 37), some (.int (x1)), some (.int (x2)), some (.int (x3)), some (.int (x4))] [.int (s0)] h Q := by
  refine a_if_eq 60 dX7_sumAhead_41 (by decide) (fun c1 => ?_) (fun c1 => ?_)
  · replace k := k.1 c1
    refine a_iinc dX7_sumAhead_60 (v := x4 + (nI 1)) rfl (by rfl) (by decide) rfl ?_
    refine a_goto 5 dX7_sumAhead_63 (by decide) ?_
    exact k
  · replace k := k.2 c1
    refine a_iload_n dX7_sumAhead_44 rfl ?_
    refine a_aload_n dX7_sumAhead_45 rfl ?_
    refine a_getR dX7_sumAhead_46 fF_RX7_25 rfl rfl ?_
    refine a_iload_n dX7_sumAhead_49 rfl ?_
    refine a_iconst dX7_sumAhead_50 (v := nI 1) (by decide) ?_
    refine a_iload dX7_sumAhead_51 rfl ?_
    refine a_ishl dX7_sumAhead_53 ?_
    refine a_iconst dX7_sumAhead_54 (v := (-1 : Int32)) (by decide) ?_
    refine a_ixor dX7_sumAhead_55 ?_
    refine a_iand dX7_sumAhead_56 ?_
    obtain ⟨e2, k⟩ := k
    refine a_iald dX7_sumAhead_57 rfl e2 ?_
    refine a_iadd dX7_sumAhead_58 ?_
    refine a_istore_n dX7_sumAhead_59 (by decide) rfl ?_
    refine a_iinc dX7_sumAhead_60 (v := x4 + (nI 1)) rfl (by rfl) (by decide) rfl ?_
    refine a_goto 5 dX7_sumAhead_63 (by decide) ?_
    exact k
set_option maxRecDepth 100000 in
theorem w_X7_sumBehind_0 {G : dh_G} {x1 x2 : Int32} {h : dh_H} {Q : Option Value → dh_H → Prop} (k : dh_C G mX5_hasChild [.ref 3, .int (x2)] h (fun v h1 => dh_J G mX7_sumBehind 8 [some (.ref 37), some (.int (x1)), some (.int (x2)), none, none, none] (v.toList ++ []) h1 Q)) : dh_J G mX7_sumBehind 0 [some (.ref 37), some (.int (x1)), some (.int (x2)), none, none, none] [] h Q := by
  refine a_aload_n dX7_sumBehind_0 rfl ?_
  refine a_getR dX7_sumBehind_1 fF_RX7_36 rfl rfl ?_
  refine a_iload_n dX7_sumBehind_4 rfl ?_
  exact a_callV1 dX7_sumBehind_5 (dh_Y_up cY_RX7_84 (by decide)) rfl rfl (Nat.le_of_ble_eq_true rfl) k
theorem e_X7_sumBehind {G : dh_G} {x1 x2 : Int32} {h : dh_H} {Q : Option Value → dh_H → Prop} (k : dh_C G mX5_hasChild [.ref 3, .int (x2)] h (fun v h1 => dh_J G mX7_sumBehind 8 [some (.ref 37), some (.int (x1)), some (.int (x2)), none, none, none] (v.toList ++ []) h1 Q)) : dh_C G mX7_sumBehind [.ref 37, .int (x1), .int (x2)] h Q := dh_C_of [some (.ref 37), some (.int (x1)), some (.int (x2)), none, none, none] (by decide) (Nat.le_of_ble_eq_true rfl) rfl (w_X7_sumBehind_0 k)
set_option maxRecDepth 100000 in
theorem w_X7_sumBehind_8 {G : dh_G} {x1 x2 s0 : Int32} {h : dh_H} {Q : Option Value → dh_H → Prop} (k : ((¬ s0 = 0) → dh_J G mX7_sumBehind 18 [some (.ref 37), some (.int (x1)), some (.int (x2)), some (.int (nI 0)), some (.int (nI 0)), none] [] h Q) ∧ ((s0 = 0) → Q (some (.int (nI 1))) h)) : dh_J G mX7_sumBehind 8 [some (.ref 37), some (.int (x1)), some (.int (x2)), none, none, none] [.int (s0)] h Q := by
  refine a_if_ne 13 dX7_sumBehind_8 (by decide) (fun c1 => ?_) (fun c1 => ?_)
  · replace k := k.1 c1
    refine a_iconst dX7_sumBehind_13 (v := nI 0) (by decide) ?_
    refine a_istore_n dX7_sumBehind_14 (by decide) rfl ?_
    refine a_iconst dX7_sumBehind_15 (v := nI 0) (by decide) ?_
    refine a_istore dX7_sumBehind_16 (by decide) rfl ?_
    exact k
  · replace k := k.2 c1
    refine a_iconst dX7_sumBehind_11 (v := nI 1) (by decide) ?_
    exact a_iret dX7_sumBehind_12 rfl k
set_option maxRecDepth 100000 in
theorem w_X7_sumBehind_18 {G : dh_G} {x1 x2 x3 x4 : Int32} {h : dh_H} {Q : Option Value → dh_H → Prop} (k : (((h 3 4) ≤ x4) → Q (some (.int (x3))) h) ∧ ((¬ (h 3 4) ≤ x4) → (vp_in x2 6) ∧ dh_C G mX9_isIn [.int ((h 41 x2.toNatClampNeg) &&& (x1 ^^^ (-1 : Int32))), .int (x4)] h (fun v h1 => dh_J G mX7_sumBehind 45 [some (.ref 37), some (.int (x1)), some (.int (x2)), some (.int (x3)), some (.int (x4)), none] (v.toList ++ []) h1 Q))) : dh_J G mX7_sumBehind 18 [some (.ref 37), some (.int (x1)), some (.int (x2)), some (.int (x3)), some (.int (x4)), none] [] h Q := by
  refine a_iload dX7_sumBehind_18 rfl ?_
  refine a_aload_n dX7_sumBehind_20 rfl ?_
  refine a_getR dX7_sumBehind_21 fF_RX7_36 rfl rfl ?_
  refine a_getI dX7_sumBehind_24 fF_RX7_49 rfl rfl ?_
  refine a_icmp_ge 93 dX7_sumBehind_27 (by decide) (fun c1 => ?_) (fun c1 => ?_)
  · replace k := k.1 c1
    refine a_iload_n dX7_sumBehind_93 rfl ?_
    exact a_iret dX7_sumBehind_94 rfl k
  · replace k := k.2 c1
    refine a_aload_n dX7_sumBehind_30 rfl ?_
    refine a_getR dX7_sumBehind_31 fF_RX7_22 rfl rfl ?_
    refine a_iload_n dX7_sumBehind_34 rfl ?_
    obtain ⟨e2, k⟩ := k
    refine a_iald dX7_sumBehind_35 rfl e2 ?_
    refine a_iload_n dX7_sumBehind_36 rfl ?_
    refine a_iconst dX7_sumBehind_37 (v := (-1 : Int32)) (by decide) ?_
    refine a_ixor dX7_sumBehind_38 ?_
    refine a_iand dX7_sumBehind_39 ?_
    refine a_iload dX7_sumBehind_40 rfl ?_
    exact a_callS2 dX7_sumBehind_42 (dh_Y_up cY_RX7_88 (by decide)) (Nat.le_of_ble_eq_true rfl) k
set_option maxRecDepth 100000 in
theorem w_X7_sumBehind_45 {G : dh_G} {x1 x2 x3 x4 s0 : Int32} {h : dh_H} {Q : Option Value → dh_H → Prop} (k : ((s0 = 0) → dh_J G mX7_sumBehind 18 [some (.ref 37), some (.int (x1)), some (.int (x2)), some (.int (x3)), some (.int (x4 + (nI 1))), none] [] h Q) ∧ ((¬ s0 = 0) → (vp_in (x1 ||| ((nI 1) <<< (x4 &&& 31))) 64) ∧ (vp_in x2 6) ∧ ∃ r3, ([45, 46, 47, 48, 49, 50][x2.toNatClampNeg]? = some r3) ∧ (dh_LAY[r3]? = some (.inr (0, 6, []))) ∧ (vp_in x4 6) ∧ (vp_in x1 64) ∧ (vp_in x4 6) ∧ dh_J G mX7_sumBehind 18 [some (.ref 37), some (.int (x1)), some (.int (x2)), some (.int (x3 + (h 43 (x1 ||| ((nI 1) <<< (x4 &&& 31))).toNatClampNeg))), some (.int (x4 + (nI 1))), none] [] (dh_s h r3 x4.toNatClampNeg ((h r3 x4.toNatClampNeg) + ((h 42 x1.toNatClampNeg) * (h 43 (x1 ||| ((nI 1) <<< (x4 &&& 31))).toNatClampNeg)))) Q)) : dh_J G mX7_sumBehind 45 [some (.ref 37), some (.int (x1)), some (.int (x2)), some (.int (x3)), some (.int (x4)), none] [.int (s0)] h Q := by
  refine a_if_eq 87 dX7_sumBehind_45 (by decide) (fun c1 => ?_) (fun c1 => ?_)
  · replace k := k.1 c1
    refine a_iinc dX7_sumBehind_87 (v := x4 + (nI 1)) rfl (by rfl) (by decide) rfl ?_
    refine a_goto 18 dX7_sumBehind_90 (by decide) ?_
    exact k
  · replace k := k.2 c1
    refine a_aload_n dX7_sumBehind_48 rfl ?_
    refine a_getR dX7_sumBehind_49 fF_RX7_28 rfl rfl ?_
    refine a_iload_n dX7_sumBehind_52 rfl ?_
    refine a_iconst dX7_sumBehind_53 (v := nI 1) (by decide) ?_
    refine a_iload dX7_sumBehind_54 rfl ?_
    refine a_ishl dX7_sumBehind_56 ?_
    refine a_ior dX7_sumBehind_57 ?_
    obtain ⟨e2, k⟩ := k
    refine a_iald dX7_sumBehind_58 rfl e2 ?_
    refine a_istore dX7_sumBehind_59 (by decide) rfl ?_
    refine a_aload_n dX7_sumBehind_61 rfl ?_
    refine a_getR dX7_sumBehind_62 fF_RX7_33 rfl rfl ?_
    refine a_iload_n dX7_sumBehind_65 rfl ?_
    obtain ⟨e4, r3, e5, e6, k⟩ := k
    refine a_aald dX7_sumBehind_66 rfl (Or.inr rfl) e4 e5 ?_
    refine a_iload dX7_sumBehind_67 rfl ?_
    refine a_dup2 dX7_sumBehind_69 rfl rfl ?_
    obtain ⟨e7, k⟩ := k
    refine a_iald dX7_sumBehind_70 e6 e7 ?_
    refine a_aload_n dX7_sumBehind_71 rfl ?_
    refine a_getR dX7_sumBehind_72 fF_RX7_25 rfl rfl ?_
    refine a_iload_n dX7_sumBehind_75 rfl ?_
    obtain ⟨e8, k⟩ := k
    refine a_iald dX7_sumBehind_76 rfl e8 ?_
    refine a_iload dX7_sumBehind_77 rfl ?_
    refine a_imul dX7_sumBehind_79 ?_
    refine a_iadd dX7_sumBehind_80 ?_
    obtain ⟨e9, k⟩ := k
    refine a_iast dX7_sumBehind_81 e6 e9 ?_
    refine a_iload_n dX7_sumBehind_82 rfl ?_
    refine a_iload dX7_sumBehind_83 rfl ?_
    refine a_iadd dX7_sumBehind_85 ?_
    refine a_istore_n dX7_sumBehind_86 (by decide) rfl ?_
    refine a_iinc dX7_sumBehind_87 (v := x4 + (nI 1)) rfl (by rfl) (by decide) rfl ?_
    refine a_goto 18 dX7_sumBehind_90 (by decide) ?_
    refine dh_drop 5 ?_
    exact k
set_option maxRecDepth 100000 in
theorem w_X7_sureDummyOf_0 {G : dh_G} {x1 : Int32} {h : dh_H} {Q : Option Value → dh_H → Prop} (k : (((h 37 6) = 0) → Q (some (.int ((-1 : Int32)))) h) ∧ ((¬ (h 37 6) = 0) → dh_C G mX5_hasChild [.ref 3, .int (x1)] h (fun v h1 => dh_J G mX7_sureDummyOf 15 [some (.ref 37), some (.int (x1)), none] (v.toList ++ []) h1 Q))) : dh_J G mX7_sureDummyOf 0 [some (.ref 37), some (.int (x1)), none] [] h Q := by
  refine a_aload_n dX7_sureDummyOf_0 rfl ?_
  refine a_getI dX7_sureDummyOf_1 fF_RX7_81 rfl rfl ?_
  refine a_if_eq 18 dX7_sureDummyOf_4 (by decide) (fun c1 => ?_) (fun c1 => ?_)
  · replace k := k.1 c1
    refine a_iconst dX7_sureDummyOf_18 (v := (-1 : Int32)) (by decide) ?_
    exact a_iret dX7_sureDummyOf_19 rfl k
  · replace k := k.2 c1
    refine a_aload_n dX7_sureDummyOf_7 rfl ?_
    refine a_getR dX7_sureDummyOf_8 fF_RX7_36 rfl rfl ?_
    refine a_iload_n dX7_sureDummyOf_11 rfl ?_
    exact a_callV1 dX7_sureDummyOf_12 (dh_Y_up cY_RX7_84 (by decide)) rfl rfl (Nat.le_of_ble_eq_true rfl) k
theorem e_X7_sureDummyOf {G : dh_G} {x1 : Int32} {h : dh_H} {Q : Option Value → dh_H → Prop} (k : (((h 37 6) = 0) → Q (some (.int ((-1 : Int32)))) h) ∧ ((¬ (h 37 6) = 0) → dh_C G mX5_hasChild [.ref 3, .int (x1)] h (fun v h1 => dh_J G mX7_sureDummyOf 15 [some (.ref 37), some (.int (x1)), none] (v.toList ++ []) h1 Q))) : dh_C G mX7_sureDummyOf [.ref 37, .int (x1)] h Q := dh_C_of [some (.ref 37), some (.int (x1)), none] (by decide) (Nat.le_of_ble_eq_true rfl) rfl (w_X7_sureDummyOf_0 k)
set_option maxRecDepth 100000 in
theorem w_X7_sureDummyOf_15 {G : dh_G} {x1 s0 : Int32} {h : dh_H} {Q : Option Value → dh_H → Prop} (k : ((¬ s0 = 0) → dh_J G mX7_sureDummyOf 22 [some (.ref 37), some (.int (x1)), some (.int (nI 0))] [] h Q) ∧ ((s0 = 0) → Q (some (.int ((-1 : Int32)))) h)) : dh_J G mX7_sureDummyOf 15 [some (.ref 37), some (.int (x1)), none] [.int (s0)] h Q := by
  refine a_if_ne 20 dX7_sureDummyOf_15 (by decide) (fun c1 => ?_) (fun c1 => ?_)
  · replace k := k.1 c1
    refine a_iconst dX7_sureDummyOf_20 (v := nI 0) (by decide) ?_
    refine a_istore_n dX7_sureDummyOf_21 (by decide) rfl ?_
    exact k
  · replace k := k.2 c1
    refine a_iconst dX7_sureDummyOf_18 (v := (-1 : Int32)) (by decide) ?_
    exact a_iret dX7_sureDummyOf_19 rfl k
set_option maxRecDepth 100000 in
theorem w_X7_sureDummyOf_22 {G : dh_G} {x1 x2 : Int32} {h : dh_H} {Q : Option Value → dh_H → Prop} (k : (((h 3 4) ≤ x2) → Q (some (.int ((-1 : Int32)))) h) ∧ ((¬ (h 3 4) ≤ x2) → (vp_in x1 6) ∧ ∃ r2, ([45, 46, 47, 48, 49, 50][x1.toNatClampNeg]? = some r2) ∧ (dh_LAY[r2]? = some (.inr (0, 6, []))) ∧ (vp_in x2 6) ∧ ((¬ (h r2 x2.toNatClampNeg) = (h 37 6)) → dh_J G mX7_sureDummyOf 22 [some (.ref 37), some (.int (x1)), some (.int (x2 + (nI 1)))] [] h Q) ∧ (((h r2 x2.toNatClampNeg) = (h 37 6)) → Q (some (.int (x2))) h))) : dh_J G mX7_sureDummyOf 22 [some (.ref 37), some (.int (x1)), some (.int (x2))] [] h Q := by
  refine a_iload_n dX7_sureDummyOf_22 rfl ?_
  refine a_aload_n dX7_sureDummyOf_23 rfl ?_
  refine a_getR dX7_sureDummyOf_24 fF_RX7_36 rfl rfl ?_
  refine a_getI dX7_sureDummyOf_27 fF_RX7_49 rfl rfl ?_
  refine a_icmp_ge 56 dX7_sureDummyOf_30 (by decide) (fun c1 => ?_) (fun c1 => ?_)
  · replace k := k.1 c1
    refine a_iconst dX7_sureDummyOf_56 (v := (-1 : Int32)) (by decide) ?_
    exact a_iret dX7_sureDummyOf_57 rfl k
  · replace k := k.2 c1
    refine a_aload_n dX7_sureDummyOf_33 rfl ?_
    refine a_getR dX7_sureDummyOf_34 fF_RX7_33 rfl rfl ?_
    refine a_iload_n dX7_sureDummyOf_37 rfl ?_
    obtain ⟨e3, r2, e4, e5, k⟩ := k
    refine a_aald dX7_sureDummyOf_38 rfl (Or.inr rfl) e3 e4 ?_
    refine a_iload_n dX7_sureDummyOf_39 rfl ?_
    obtain ⟨e6, k⟩ := k
    refine a_iald dX7_sureDummyOf_40 e5 e6 ?_
    refine a_aload_n dX7_sureDummyOf_41 rfl ?_
    refine a_getI dX7_sureDummyOf_42 fF_RX7_81 rfl rfl ?_
    refine a_icmp_ne 50 dX7_sureDummyOf_45 (by decide) (fun c7 => ?_) (fun c7 => ?_)
    · replace k := k.1 c7
      refine a_iinc dX7_sureDummyOf_50 (v := x2 + (nI 1)) rfl (by rfl) (by decide) rfl ?_
      refine a_goto 22 dX7_sureDummyOf_53 (by decide) ?_
      exact k
    · replace k := k.2 c7
      refine a_iload_n dX7_sureDummyOf_48 rfl ?_
      exact a_iret dX7_sureDummyOf_49 rfl k
set_option maxRecDepth 100000 in
theorem w_X7_bestQuestion_0 {G : dh_G} {h : dh_H} {Q : Option Value → dh_H → Prop} (k : dh_J G mX7_bestQuestion 9 [some (.ref 37), some (.int ((-1 : Int32))), some (.int (h 37 6)), some (.int (nI 0)), none, none, none] [] h Q) : dh_J G mX7_bestQuestion 0 [some (.ref 37), none, none, none, none, none, none] [] h Q := by
  refine a_iconst dX7_bestQuestion_0 (v := (-1 : Int32)) (by decide) ?_
  refine a_istore_n dX7_bestQuestion_1 (by decide) rfl ?_
  refine a_aload_n dX7_bestQuestion_2 rfl ?_
  refine a_getI dX7_bestQuestion_3 fF_RX7_81 rfl rfl ?_
  refine a_istore_n dX7_bestQuestion_6 (by decide) rfl ?_
  refine a_iconst dX7_bestQuestion_7 (v := nI 0) (by decide) ?_
  refine a_istore_n dX7_bestQuestion_8 (by decide) rfl ?_
  exact k
theorem e_X7_bestQuestion {G : dh_G} {h : dh_H} {Q : Option Value → dh_H → Prop} (k : dh_J G mX7_bestQuestion 9 [some (.ref 37), some (.int ((-1 : Int32))), some (.int (h 37 6)), some (.int (nI 0)), none, none, none] [] h Q) : dh_C G mX7_bestQuestion [.ref 37] h Q := dh_C_of [some (.ref 37), none, none, none, none, none, none] (by decide) (Nat.le_of_ble_eq_true rfl) rfl (w_X7_bestQuestion_0 k)
set_option maxRecDepth 100000 in
theorem w_X7_bestQuestion_9 {G : dh_G} {x1 x2 x3 : Int32} {h : dh_H} {Q : Option Value → dh_H → Prop} (k : (((h 3 3) ≤ x3) → Q (some (.int (x1))) h) ∧ ((¬ (h 3 3) ≤ x3) → dh_J G mX7_bestQuestion 23 [some (.ref 37), some (.int (x1)), some (.int (x2)), some (.int (x3)), some (.int (nI 0)), none, none] [] h Q)) : dh_J G mX7_bestQuestion 9 [some (.ref 37), some (.int (x1)), some (.int (x2)), some (.int (x3)), none, none, none] [] h Q := by
  refine a_iload_n dX7_bestQuestion_9 rfl ?_
  refine a_aload_n dX7_bestQuestion_10 rfl ?_
  refine a_getR dX7_bestQuestion_11 fF_RX7_36 rfl rfl ?_
  refine a_getI dX7_bestQuestion_14 fF_RX7_44 rfl rfl ?_
  refine a_icmp_ge 87 dX7_bestQuestion_17 (by decide) (fun c1 => ?_) (fun c1 => ?_)
  · replace k := k.1 c1
    refine a_iload_n dX7_bestQuestion_87 rfl ?_
    exact a_iret dX7_bestQuestion_88 rfl k
  · replace k := k.2 c1
    refine a_iconst dX7_bestQuestion_20 (v := nI 0) (by decide) ?_
    refine a_istore dX7_bestQuestion_21 (by decide) rfl ?_
    exact k
set_option maxRecDepth 100000 in
theorem w_X7_bestQuestion_23 {G : dh_G} {x1 x2 x3 x4 : Int32} {h : dh_H} {Q : Option Value → dh_H → Prop} (k : (((h 3 4) ≤ x4) → dh_J G mX7_bestQuestion 9 [some (.ref 37), some (.int (x1)), some (.int (x2)), some (.int (x3 + (nI 1))), none, none, none] [] h Q) ∧ ((¬ (h 3 4) ≤ x4) → dh_C G mX7_waysToTake [.ref 37, .int (x3), .int (x4)] h (fun v h1 => dh_J G mX7_bestQuestion 42 [some (.ref 37), some (.int (x1)), some (.int (x2)), some (.int (x3)), some (.int (x4)), none, none] (v.toList ++ []) h1 Q))) : dh_J G mX7_bestQuestion 23 [some (.ref 37), some (.int (x1)), some (.int (x2)), some (.int (x3)), some (.int (x4)), none, none] [] h Q := by
  refine a_iload dX7_bestQuestion_23 rfl ?_
  refine a_aload_n dX7_bestQuestion_25 rfl ?_
  refine a_getR dX7_bestQuestion_26 fF_RX7_36 rfl rfl ?_
  refine a_getI dX7_bestQuestion_29 fF_RX7_49 rfl rfl ?_
  refine a_icmp_ge 81 dX7_bestQuestion_32 (by decide) (fun c1 => ?_) (fun c1 => ?_)
  · replace k := k.1 c1
    refine a_iinc dX7_bestQuestion_81 (v := x3 + (nI 1)) rfl (by rfl) (by decide) rfl ?_
    refine a_goto 9 dX7_bestQuestion_84 (by decide) ?_
    refine dh_drop 4 ?_
    exact k
  · replace k := k.2 c1
    refine a_aload_n dX7_bestQuestion_35 rfl ?_
    refine a_iload_n dX7_bestQuestion_36 rfl ?_
    refine a_iload dX7_bestQuestion_37 rfl ?_
    exact a_callV2 dX7_bestQuestion_39 (dh_Y_up cY_RX7_91 (by decide)) rfl rfl (Nat.le_of_ble_eq_true rfl) k
set_option maxRecDepth 100000 in
theorem w_X7_bestQuestion_42 {G : dh_G} {x1 x2 x3 x4 s0 : Int32} {h : dh_H} {Q : Option Value → dh_H → Prop} (k : ((x2 ≤ (if s0 < (h 37 6) - s0 then (h 37 6) - s0 else s0)) → dh_J G mX7_bestQuestion 23 [some (.ref 37), some (.int (x1)), some (.int (x2)), some (.int (x3)), some (.int (x4 + (nI 1))), none, none] [] h Q) ∧ ((¬ x2 ≤ (if s0 < (h 37 6) - s0 then (h 37 6) - s0 else s0)) → dh_J G mX7_bestQuestion 23 [some (.ref 37), some (.int (((nI 10) * x3) + x4)), some (.int ((if s0 < (h 37 6) - s0 then (h 37 6) - s0 else s0))), some (.int (x3)), some (.int (x4 + (nI 1))), none, none] [] h Q)) : dh_J G mX7_bestQuestion 42 [some (.ref 37), some (.int (x1)), some (.int (x2)), some (.int (x3)), some (.int (x4)), none, none] [.int (s0)] h Q := by
  refine a_istore dX7_bestQuestion_42 (by decide) rfl ?_
  refine a_iload dX7_bestQuestion_44 rfl ?_
  refine a_aload_n dX7_bestQuestion_46 rfl ?_
  refine a_getI dX7_bestQuestion_47 fF_RX7_81 rfl rfl ?_
  refine a_iload dX7_bestQuestion_50 rfl ?_
  refine a_isub dX7_bestQuestion_52 ?_
  refine a_max dX7_bestQuestion_53 lM_RX7_94 wMmax (by decide) (Nat.le_of_ble_eq_true rfl) ?_
  refine a_istore dX7_bestQuestion_56 (by decide) rfl ?_
  refine a_iload dX7_bestQuestion_58 rfl ?_
  refine a_iload_n dX7_bestQuestion_60 rfl ?_
  refine a_icmp_ge 75 dX7_bestQuestion_61 (by decide) (fun c1 => ?_) (fun c1 => ?_)
  · replace k := k.1 c1
    refine a_iinc dX7_bestQuestion_75 (v := x4 + (nI 1)) rfl (by rfl) (by decide) rfl ?_
    refine a_goto 23 dX7_bestQuestion_78 (by decide) ?_
    refine dh_drop 5 ?_
    refine dh_drop 6 ?_
    exact k
  · replace k := k.2 c1
    refine a_iload dX7_bestQuestion_64 rfl ?_
    refine a_istore_n dX7_bestQuestion_66 (by decide) rfl ?_
    refine a_bipush dX7_bestQuestion_67 (v := nI 10) (by decide) ?_
    refine a_iload_n dX7_bestQuestion_69 rfl ?_
    refine a_imul dX7_bestQuestion_70 ?_
    refine a_iload dX7_bestQuestion_71 rfl ?_
    refine a_iadd dX7_bestQuestion_73 ?_
    refine a_istore_n dX7_bestQuestion_74 (by decide) rfl ?_
    refine a_iinc dX7_bestQuestion_75 (v := x4 + (nI 1)) rfl (by rfl) (by decide) rfl ?_
    refine a_goto 23 dX7_bestQuestion_78 (by decide) ?_
    refine dh_drop 5 ?_
    refine dh_drop 6 ?_
    exact k
set_option maxRecDepth 100000 in
theorem w_X7_waysToTake_0 {G : dh_G} {x1 x2 : Int32} {h : dh_H} {Q : Option Value → dh_H → Prop} (k : dh_J G mX7_waysToTake 5 [some (.ref 37), some (.int (x1)), some (.int (x2)), some (.int (nI 0)), some (.int (nI 0))] [] h Q) : dh_J G mX7_waysToTake 0 [some (.ref 37), some (.int (x1)), some (.int (x2)), none, none] [] h Q := by
  refine a_iconst dX7_waysToTake_0 (v := nI 0) (by decide) ?_
  refine a_istore_n dX7_waysToTake_1 (by decide) rfl ?_
  refine a_iconst dX7_waysToTake_2 (v := nI 0) (by decide) ?_
  refine a_istore dX7_waysToTake_3 (by decide) rfl ?_
  exact k
theorem e_X7_waysToTake {G : dh_G} {x1 x2 : Int32} {h : dh_H} {Q : Option Value → dh_H → Prop} (k : dh_J G mX7_waysToTake 5 [some (.ref 37), some (.int (x1)), some (.int (x2)), some (.int (nI 0)), some (.int (nI 0))] [] h Q) : dh_C G mX7_waysToTake [.ref 37, .int (x1), .int (x2)] h Q := dh_C_of [some (.ref 37), some (.int (x1)), some (.int (x2)), none, none] (by decide) (Nat.le_of_ble_eq_true rfl) rfl (w_X7_waysToTake_0 k)
set_option maxRecDepth 100000 in
theorem w_X7_waysToTake_5 {G : dh_G} {x1 x2 x3 x4 : Int32} {h : dh_H} {Q : Option Value → dh_H → Prop} (k : (((h 3 4) ≤ x4) → Q (some (.int (x3))) h) ∧ ((¬ (h 3 4) ≤ x4) → dh_C G mX5_takesOwning [.ref 3, .int (x1), .int (x4), .int (x2)] h (fun v h1 => dh_J G mX7_waysToTake 28 [some (.ref 37), some (.int (x1)), some (.int (x2)), some (.int (x3)), some (.int (x4))] (v.toList ++ []) h1 Q))) : dh_J G mX7_waysToTake 5 [some (.ref 37), some (.int (x1)), some (.int (x2)), some (.int (x3)), some (.int (x4))] [] h Q := by
  refine a_iload dX7_waysToTake_5 rfl ?_
  refine a_aload_n dX7_waysToTake_7 rfl ?_
  refine a_getR dX7_waysToTake_8 fF_RX7_36 rfl rfl ?_
  refine a_getI dX7_waysToTake_11 fF_RX7_49 rfl rfl ?_
  refine a_icmp_ge 49 dX7_waysToTake_14 (by decide) (fun c1 => ?_) (fun c1 => ?_)
  · replace k := k.1 c1
    refine a_iload_n dX7_waysToTake_49 rfl ?_
    exact a_iret dX7_waysToTake_50 rfl k
  · replace k := k.2 c1
    refine a_aload_n dX7_waysToTake_17 rfl ?_
    refine a_getR dX7_waysToTake_18 fF_RX7_36 rfl rfl ?_
    refine a_iload_n dX7_waysToTake_21 rfl ?_
    refine a_iload dX7_waysToTake_22 rfl ?_
    refine a_iload_n dX7_waysToTake_24 rfl ?_
    exact a_callV3 dX7_waysToTake_25 (dh_Y_up cY_RX7_59 (by decide)) rfl rfl (Nat.le_of_ble_eq_true rfl) k
set_option maxRecDepth 100000 in
theorem w_X7_waysToTake_28 {G : dh_G} {x1 x2 x3 x4 s0 : Int32} {h : dh_H} {Q : Option Value → dh_H → Prop} (k : ((s0 = 0) → dh_J G mX7_waysToTake 5 [some (.ref 37), some (.int (x1)), some (.int (x2)), some (.int (x3)), some (.int (x4 + (nI 1)))] [] h Q) ∧ ((¬ s0 = 0) → (vp_in x1 6) ∧ ∃ r2, ([45, 46, 47, 48, 49, 50][x1.toNatClampNeg]? = some r2) ∧ (dh_LAY[r2]? = some (.inr (0, 6, []))) ∧ (vp_in x4 6) ∧ dh_J G mX7_waysToTake 5 [some (.ref 37), some (.int (x1)), some (.int (x2)), some (.int (x3 + (h r2 x4.toNatClampNeg))), some (.int (x4 + (nI 1)))] [] h Q)) : dh_J G mX7_waysToTake 28 [some (.ref 37), some (.int (x1)), some (.int (x2)), some (.int (x3)), some (.int (x4))] [.int (s0)] h Q := by
  refine a_if_eq 43 dX7_waysToTake_28 (by decide) (fun c1 => ?_) (fun c1 => ?_)
  · replace k := k.1 c1
    refine a_iinc dX7_waysToTake_43 (v := x4 + (nI 1)) rfl (by rfl) (by decide) rfl ?_
    refine a_goto 5 dX7_waysToTake_46 (by decide) ?_
    exact k
  · replace k := k.2 c1
    refine a_iload_n dX7_waysToTake_31 rfl ?_
    refine a_aload_n dX7_waysToTake_32 rfl ?_
    refine a_getR dX7_waysToTake_33 fF_RX7_33 rfl rfl ?_
    refine a_iload_n dX7_waysToTake_36 rfl ?_
    obtain ⟨e3, r2, e4, e5, k⟩ := k
    refine a_aald dX7_waysToTake_37 rfl (Or.inr rfl) e3 e4 ?_
    refine a_iload dX7_waysToTake_38 rfl ?_
    obtain ⟨e6, k⟩ := k
    refine a_iald dX7_waysToTake_40 e5 e6 ?_
    refine a_iadd dX7_waysToTake_41 ?_
    refine a_istore_n dX7_waysToTake_42 (by decide) rfl ?_
    refine a_iinc dX7_waysToTake_43 (v := x4 + (nI 1)) rfl (by rfl) (by decide) rfl ?_
    refine a_goto 5 dX7_waysToTake_46 (by decide) ?_
    exact k
