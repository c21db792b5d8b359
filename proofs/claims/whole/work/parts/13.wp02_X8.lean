set_option maxRecDepth 100000 in
theorem w_X8_reset_0 {G : dh_G} {h : dh_H} {Q : Option Value → dh_H → Prop} (k : dh_J G mX8_reset 7 [some (.ref 19), some (.int (nI 0))] [] (dh_s h 19 1 (nI 0)) Q) : dh_J G mX8_reset 0 [some (.ref 19), none] [] h Q := by
  refine a_aload_n dX8_reset_0 rfl ?_
  refine a_iconst dX8_reset_1 (v := nI 0) (by decide) ?_
  refine a_put dX8_reset_2 fF_RX8_31 rfl rfl rfl rfl ?_
  refine a_iconst dX8_reset_5 (v := nI 0) (by decide) ?_
  refine a_istore_n dX8_reset_6 (by decide) rfl ?_
  exact k
theorem e_X8_reset {G : dh_G} {h : dh_H} {Q : Option Value → dh_H → Prop} (k : dh_J G mX8_reset 7 [some (.ref 19), some (.int (nI 0))] [] (dh_s h 19 1 (nI 0)) Q) : dh_C G mX8_reset [.ref 19] h Q := dh_C_of [some (.ref 19), none] (by decide) (Nat.le_of_ble_eq_true rfl) rfl (w_X8_reset_0 k)
set_option maxRecDepth 100000 in
theorem w_X8_reset_7 {G : dh_G} {x1 : Int32} {h : dh_H} {Q : Option Value → dh_H → Prop} (k : (((nI 6) ≤ x1) → Q none h) ∧ ((¬ (nI 6) ≤ x1) → (vp_in x1 6) ∧ (vp_in x1 6) ∧ (vp_in x1 6) ∧ (vp_in x1 6) ∧ (vp_in x1 6) ∧ dh_J G mX8_reset 7 [some (.ref 19), some (.int (x1 + (nI 1)))] [] (dh_s (dh_s (dh_s (dh_s (dh_s h 20 x1.toNatClampNeg (-1 : Int32)) 21 x1.toNatClampNeg (nI 0)) 22 x1.toNatClampNeg (nI 0)) 23 x1.toNatClampNeg (nI 0)) 24 x1.toNatClampNeg (nI 0)) Q)) : dh_J G mX8_reset 7 [some (.ref 19), some (.int (x1))] [] h Q := by
  refine a_iload_n dX8_reset_7 rfl ?_
  refine a_bipush dX8_reset_8 (v := nI 6) (by decide) ?_
  refine a_icmp_ge 54 dX8_reset_10 (by decide) (fun c1 => ?_) (fun c1 => ?_)
  · replace k := k.1 c1
    exact a_vret dX8_reset_54 rfl k
  · replace k := k.2 c1
    refine a_aload_n dX8_reset_13 rfl ?_
    refine a_getR dX8_reset_14 fF_RX8_9 rfl rfl ?_
    refine a_iload_n dX8_reset_17 rfl ?_
    refine a_iconst dX8_reset_18 (v := (-1 : Int32)) (by decide) ?_
    obtain ⟨e2, k⟩ := k
    refine a_iast dX8_reset_19 rfl e2 ?_
    refine a_aload_n dX8_reset_20 rfl ?_
    refine a_getR dX8_reset_21 fF_RX8_15 rfl rfl ?_
    refine a_iload_n dX8_reset_24 rfl ?_
    refine a_iconst dX8_reset_25 (v := nI 0) (by decide) ?_
    obtain ⟨e3, k⟩ := k
    refine a_iast dX8_reset_26 rfl e3 ?_
    refine a_aload_n dX8_reset_27 rfl ?_
    refine a_getR dX8_reset_28 fF_RX8_18 rfl rfl ?_
    refine a_iload_n dX8_reset_31 rfl ?_
    refine a_iconst dX8_reset_32 (v := nI 0) (by decide) ?_
    obtain ⟨e4, k⟩ := k
    refine a_iast dX8_reset_33 rfl e4 ?_
    refine a_aload_n dX8_reset_34 rfl ?_
    refine a_getR dX8_reset_35 fF_RX8_21 rfl rfl ?_
    refine a_iload_n dX8_reset_38 rfl ?_
    refine a_iconst dX8_reset_39 (v := nI 0) (by decide) ?_
    obtain ⟨e5, k⟩ := k
    refine a_iast dX8_reset_40 rfl e5 ?_
    refine a_aload_n dX8_reset_41 rfl ?_
    refine a_getR dX8_reset_42 fF_RX8_24 rfl rfl ?_
    refine a_iload_n dX8_reset_45 rfl ?_
    refine a_iconst dX8_reset_46 (v := nI 0) (by decide) ?_
    obtain ⟨e6, k⟩ := k
    refine a_iast dX8_reset_47 rfl e6 ?_
    refine a_iinc dX8_reset_48 (v := x1 + (nI 1)) rfl (by rfl) (by decide) rfl ?_
    refine a_goto 7 dX8_reset_51 (by decide) ?_
    exact k
set_option maxRecDepth 100000 in
theorem w_X8_saveTo_26_0 {G : dh_G} {x2 : Int32} {h : dh_H} {Q : Option Value → dh_H → Prop} (k : ((x2 < 0) → Q none h) ∧ ((¬ x2 < 0) → ((x2 ≤ ((nI 620) - (nI 31))) → (vp_in x2 620) ∧ (¬ nI 0 < 0) ∧ (¬ x2 + (nI 1) < 0) ∧ (¬ nI 6 < 0) ∧ ((nI 0).toNatClampNeg + (nI 6).toNatClampNeg ≤ 6) ∧ ((x2 + (nI 1)).toNatClampNeg + (nI 6).toNatClampNeg ≤ 620) ∧ (¬ nI 0 < 0) ∧ (¬ (x2 + (nI 1)) + (nI 6) < 0) ∧ (¬ nI 6 < 0) ∧ ((nI 0).toNatClampNeg + (nI 6).toNatClampNeg ≤ 6) ∧ (((x2 + (nI 1)) + (nI 6)).toNatClampNeg + (nI 6).toNatClampNeg ≤ 620) ∧ (¬ nI 0 < 0) ∧ (¬ (x2 + (nI 1)) + (nI 12) < 0) ∧ (¬ nI 6 < 0) ∧ ((nI 0).toNatClampNeg + (nI 6).toNatClampNeg ≤ 6) ∧ (((x2 + (nI 1)) + (nI 12)).toNatClampNeg + (nI 6).toNatClampNeg ≤ 620) ∧ (¬ nI 0 < 0) ∧ (¬ (x2 + (nI 1)) + (nI 18) < 0) ∧ (¬ nI 6 < 0) ∧ ((nI 0).toNatClampNeg + (nI 6).toNatClampNeg ≤ 6) ∧ (((x2 + (nI 1)) + (nI 18)).toNatClampNeg + (nI 6).toNatClampNeg ≤ 620) ∧ (¬ nI 0 < 0) ∧ (¬ (x2 + (nI 1)) + (nI 24) < 0) ∧ (¬ nI 6 < 0) ∧ ((nI 0).toNatClampNeg + (nI 6).toNatClampNeg ≤ 6) ∧ (((x2 + (nI 1)) + (nI 24)).toNatClampNeg + (nI 6).toNatClampNeg ≤ 620) ∧ Q none (dh_c (dh_c (dh_c (dh_c (dh_c (dh_s h 26 x2.toNatClampNeg (h 19 1)) 20 26 (nI 0).toNatClampNeg (x2 + (nI 1)).toNatClampNeg (nI 6).toNatClampNeg) 21 26 (nI 0).toNatClampNeg ((x2 + (nI 1)) + (nI 6)).toNatClampNeg (nI 6).toNatClampNeg) 22 26 (nI 0).toNatClampNeg ((x2 + (nI 1)) + (nI 12)).toNatClampNeg (nI 6).toNatClampNeg) 23 26 (nI 0).toNatClampNeg ((x2 + (nI 1)) + (nI 18)).toNatClampNeg (nI 6).toNatClampNeg) 24 26 (nI 0).toNatClampNeg ((x2 + (nI 1)) + (nI 24)).toNatClampNeg (nI 6).toNatClampNeg)) ∧ ((¬ x2 ≤ ((nI 620) - (nI 31))) → Q none h))) : dh_J G mX8_saveTo 0 [some (.ref 19), some (.ref 26), some (.int (x2))] [] h Q := by
  refine a_iload_n dX8_saveTo_0 rfl ?_
  refine a_if_lt 13 dX8_saveTo_1 (by decide) (fun c1 => ?_) (fun c1 => ?_)
  · replace k := k.1 c1
    exact a_vret dX8_saveTo_13 rfl k
  · replace k := k.2 c1
    refine a_iload_n dX8_saveTo_4 rfl ?_
    refine a_aload_n dX8_saveTo_5 rfl ?_
    refine a_alenI dX8_saveTo_6 rfl ?_
    refine a_bipush dX8_saveTo_7 (v := nI 31) (by decide) ?_
    refine a_isub dX8_saveTo_9 ?_
    refine a_icmp_le 14 dX8_saveTo_10 (by decide) (fun c2 => ?_) (fun c2 => ?_)
    · replace k := k.1 c2
      refine a_aload_n dX8_saveTo_14 rfl ?_
      refine a_iload_n dX8_saveTo_15 rfl ?_
      refine a_aload_n dX8_saveTo_16 rfl ?_
      refine a_getI dX8_saveTo_17 fF_RX8_31 rfl rfl ?_
      obtain ⟨e3, k⟩ := k
      refine a_iast dX8_saveTo_20 rfl e3 ?_
      refine a_aload_n dX8_saveTo_21 rfl ?_
      refine a_getR dX8_saveTo_22 fF_RX8_9 rfl rfl ?_
      refine a_iconst dX8_saveTo_25 (v := nI 0) (by decide) ?_
      refine a_aload_n dX8_saveTo_26 rfl ?_
      refine a_iload_n dX8_saveTo_27 rfl ?_
      refine a_iconst dX8_saveTo_28 (v := nI 1) (by decide) ?_
      refine a_iadd dX8_saveTo_29 ?_
      refine a_bipush dX8_saveTo_30 (v := nI 6) (by decide) ?_
      obtain ⟨e4, e5, e6, e7, e8, k⟩ := k
      refine a_copy dX8_saveTo_32 lC_RX8_35 wCopy rfl rfl (by decide) (Nat.le_of_ble_eq_true rfl) e4 e5 e6 e7 e8 ?_
      refine a_aload_n dX8_saveTo_35 rfl ?_
      refine a_getR dX8_saveTo_36 fF_RX8_15 rfl rfl ?_
      refine a_iconst dX8_saveTo_39 (v := nI 0) (by decide) ?_
      refine a_aload_n dX8_saveTo_40 rfl ?_
      refine a_iload_n dX8_saveTo_41 rfl ?_
      refine a_iconst dX8_saveTo_42 (v := nI 1) (by decide) ?_
      refine a_iadd dX8_saveTo_43 ?_
      refine a_bipush dX8_saveTo_44 (v := nI 6) (by decide) ?_
      refine a_iadd dX8_saveTo_46 ?_
      refine a_bipush dX8_saveTo_47 (v := nI 6) (by decide) ?_
      obtain ⟨e9, e10, e11, e12, e13, k⟩ := k
      refine a_copy dX8_saveTo_49 lC_RX8_35 wCopy rfl rfl (by decide) (Nat.le_of_ble_eq_true rfl) e9 e10 e11 e12 e13 ?_
      refine a_aload_n dX8_saveTo_52 rfl ?_
      refine a_getR dX8_saveTo_53 fF_RX8_18 rfl rfl ?_
      refine a_iconst dX8_saveTo_56 (v := nI 0) (by decide) ?_
      refine a_aload_n dX8_saveTo_57 rfl ?_
      refine a_iload_n dX8_saveTo_58 rfl ?_
      refine a_iconst dX8_saveTo_59 (v := nI 1) (by decide) ?_
      refine a_iadd dX8_saveTo_60 ?_
      refine a_bipush dX8_saveTo_61 (v := nI 12) (by decide) ?_
      refine a_iadd dX8_saveTo_63 ?_
      refine a_bipush dX8_saveTo_64 (v := nI 6) (by decide) ?_
      obtain ⟨e14, e15, e16, e17, e18, k⟩ := k
      refine a_copy dX8_saveTo_66 lC_RX8_35 wCopy rfl rfl (by decide) (Nat.le_of_ble_eq_true rfl) e14 e15 e16 e17 e18 ?_
      refine a_aload_n dX8_saveTo_69 rfl ?_
      refine a_getR dX8_saveTo_70 fF_RX8_21 rfl rfl ?_
      refine a_iconst dX8_saveTo_73 (v := nI 0) (by decide) ?_
      refine a_aload_n dX8_saveTo_74 rfl ?_
      refine a_iload_n dX8_saveTo_75 rfl ?_
      refine a_iconst dX8_saveTo_76 (v := nI 1) (by decide) ?_
      refine a_iadd dX8_saveTo_77 ?_
      refine a_bipush dX8_saveTo_78 (v := nI 18) (by decide) ?_
      refine a_iadd dX8_saveTo_80 ?_
      refine a_bipush dX8_saveTo_81 (v := nI 6) (by decide) ?_
      obtain ⟨e19, e20, e21, e22, e23, k⟩ := k
      refine a_copy dX8_saveTo_83 lC_RX8_35 wCopy rfl rfl (by decide) (Nat.le_of_ble_eq_true rfl) e19 e20 e21 e22 e23 ?_
      refine a_aload_n dX8_saveTo_86 rfl ?_
      refine a_getR dX8_saveTo_87 fF_RX8_24 rfl rfl ?_
      refine a_iconst dX8_saveTo_90 (v := nI 0) (by decide) ?_
      refine a_aload_n dX8_saveTo_91 rfl ?_
      refine a_iload_n dX8_saveTo_92 rfl ?_
      refine a_iconst dX8_saveTo_93 (v := nI 1) (by decide) ?_
      refine a_iadd dX8_saveTo_94 ?_
      refine a_bipush dX8_saveTo_95 (v := nI 24) (by decide) ?_
      refine a_iadd dX8_saveTo_97 ?_
      refine a_bipush dX8_saveTo_98 (v := nI 6) (by decide) ?_
      obtain ⟨e24, e25, e26, e27, e28, k⟩ := k
      refine a_copy dX8_saveTo_100 lC_RX8_35 wCopy rfl rfl (by decide) (Nat.le_of_ble_eq_true rfl) e24 e25 e26 e27 e28 ?_
      exact a_vret dX8_saveTo_103 rfl k
    · replace k := k.2 c2
      exact a_vret dX8_saveTo_13 rfl k
theorem e_X8_saveTo_26 {G : dh_G} {x2 : Int32} {h : dh_H} {Q : Option Value → dh_H → Prop} (k : ((x2 < 0) → Q none h) ∧ ((¬ x2 < 0) → ((x2 ≤ ((nI 620) - (nI 31))) → (vp_in x2 620) ∧ (¬ nI 0 < 0) ∧ (¬ x2 + (nI 1) < 0) ∧ (¬ nI 6 < 0) ∧ ((nI 0).toNatClampNeg + (nI 6).toNatClampNeg ≤ 6) ∧ ((x2 + (nI 1)).toNatClampNeg + (nI 6).toNatClampNeg ≤ 620) ∧ (¬ nI 0 < 0) ∧ (¬ (x2 + (nI 1)) + (nI 6) < 0) ∧ (¬ nI 6 < 0) ∧ ((nI 0).toNatClampNeg + (nI 6).toNatClampNeg ≤ 6) ∧ (((x2 + (nI 1)) + (nI 6)).toNatClampNeg + (nI 6).toNatClampNeg ≤ 620) ∧ (¬ nI 0 < 0) ∧ (¬ (x2 + (nI 1)) + (nI 12) < 0) ∧ (¬ nI 6 < 0) ∧ ((nI 0).toNatClampNeg + (nI 6).toNatClampNeg ≤ 6) ∧ (((x2 + (nI 1)) + (nI 12)).toNatClampNeg + (nI 6).toNatClampNeg ≤ 620) ∧ (¬ nI 0 < 0) ∧ (¬ (x2 + (nI 1)) + (nI 18) < 0) ∧ (¬ nI 6 < 0) ∧ ((nI 0).toNatClampNeg + (nI 6).toNatClampNeg ≤ 6) ∧ (((x2 + (nI 1)) + (nI 18)).toNatClampNeg + (nI 6).toNatClampNeg ≤ 620) ∧ (¬ nI 0 < 0) ∧ (¬ (x2 + (nI 1)) + (nI 24) < 0) ∧ (¬ nI 6 < 0) ∧ ((nI 0).toNatClampNeg + (nI 6).toNatClampNeg ≤ 6) ∧ (((x2 + (nI 1)) + (nI 24)).toNatClampNeg + (nI 6).toNatClampNeg ≤ 620) ∧ Q none (dh_c (dh_c (dh_c (dh_c (dh_c (dh_s h 26 x2.toNatClampNeg (h 19 1)) 20 26 (nI 0).toNatClampNeg (x2 + (nI 1)).toNatClampNeg (nI 6).toNatClampNeg) 21 26 (nI 0).toNatClampNeg ((x2 + (nI 1)) + (nI 6)).toNatClampNeg (nI 6).toNatClampNeg) 22 26 (nI 0).toNatClampNeg ((x2 + (nI 1)) + (nI 12)).toNatClampNeg (nI 6).toNatClampNeg) 23 26 (nI 0).toNatClampNeg ((x2 + (nI 1)) + (nI 18)).toNatClampNeg (nI 6).toNatClampNeg) 24 26 (nI 0).toNatClampNeg ((x2 + (nI 1)) + (nI 24)).toNatClampNeg (nI 6).toNatClampNeg)) ∧ ((¬ x2 ≤ ((nI 620) - (nI 31))) → Q none h))) : dh_C G mX8_saveTo [.ref 19, .ref 26, .int (x2)] h Q := dh_C_of [some (.ref 19), some (.ref 26), some (.int (x2))] (by decide) (Nat.le_of_ble_eq_true rfl) rfl (w_X8_saveTo_26_0 k)
set_option maxRecDepth 100000 in
theorem w_X8_saveTo_57_0 {G : dh_G} {x2 : Int32} {h : dh_H} {Q : Option Value → dh_H → Prop} (k : ((x2 < 0) → Q none h) ∧ ((¬ x2 < 0) → ((x2 ≤ ((nI 31) - (nI 31))) → (vp_in x2 31) ∧ (¬ nI 0 < 0) ∧ (¬ x2 + (nI 1) < 0) ∧ (¬ nI 6 < 0) ∧ ((nI 0).toNatClampNeg + (nI 6).toNatClampNeg ≤ 6) ∧ ((x2 + (nI 1)).toNatClampNeg + (nI 6).toNatClampNeg ≤ 31) ∧ (¬ nI 0 < 0) ∧ (¬ (x2 + (nI 1)) + (nI 6) < 0) ∧ (¬ nI 6 < 0) ∧ ((nI 0).toNatClampNeg + (nI 6).toNatClampNeg ≤ 6) ∧ (((x2 + (nI 1)) + (nI 6)).toNatClampNeg + (nI 6).toNatClampNeg ≤ 31) ∧ (¬ nI 0 < 0) ∧ (¬ (x2 + (nI 1)) + (nI 12) < 0) ∧ (¬ nI 6 < 0) ∧ ((nI 0).toNatClampNeg + (nI 6).toNatClampNeg ≤ 6) ∧ (((x2 + (nI 1)) + (nI 12)).toNatClampNeg + (nI 6).toNatClampNeg ≤ 31) ∧ (¬ nI 0 < 0) ∧ (¬ (x2 + (nI 1)) + (nI 18) < 0) ∧ (¬ nI 6 < 0) ∧ ((nI 0).toNatClampNeg + (nI 6).toNatClampNeg ≤ 6) ∧ (((x2 + (nI 1)) + (nI 18)).toNatClampNeg + (nI 6).toNatClampNeg ≤ 31) ∧ (¬ nI 0 < 0) ∧ (¬ (x2 + (nI 1)) + (nI 24) < 0) ∧ (¬ nI 6 < 0) ∧ ((nI 0).toNatClampNeg + (nI 6).toNatClampNeg ≤ 6) ∧ (((x2 + (nI 1)) + (nI 24)).toNatClampNeg + (nI 6).toNatClampNeg ≤ 31) ∧ Q none (dh_c (dh_c (dh_c (dh_c (dh_c (dh_s h 57 x2.toNatClampNeg (h 19 1)) 20 57 (nI 0).toNatClampNeg (x2 + (nI 1)).toNatClampNeg (nI 6).toNatClampNeg) 21 57 (nI 0).toNatClampNeg ((x2 + (nI 1)) + (nI 6)).toNatClampNeg (nI 6).toNatClampNeg) 22 57 (nI 0).toNatClampNeg ((x2 + (nI 1)) + (nI 12)).toNatClampNeg (nI 6).toNatClampNeg) 23 57 (nI 0).toNatClampNeg ((x2 + (nI 1)) + (nI 18)).toNatClampNeg (nI 6).toNatClampNeg) 24 57 (nI 0).toNatClampNeg ((x2 + (nI 1)) + (nI 24)).toNatClampNeg (nI 6).toNatClampNeg)) ∧ ((¬ x2 ≤ ((nI 31) - (nI 31))) → Q none h))) : dh_J G mX8_saveTo 0 [some (.ref 19), some (.ref 57), some (.int (x2))] [] h Q := by
  refine a_iload_n dX8_saveTo_0 rfl ?_
  refine a_if_lt 13 dX8_saveTo_1 (by decide) (fun c1 => ?_) (fun c1 => ?_)
  · replace k := k.1 c1
    exact a_vret dX8_saveTo_13 rfl k
  · replace k := k.2 c1
    refine a_iload_n dX8_saveTo_4 rfl ?_
    refine a_aload_n dX8_saveTo_5 rfl ?_
    refine a_alenI dX8_saveTo_6 rfl ?_
    refine a_bipush dX8_saveTo_7 (v := nI 31) (by decide) ?_
    refine a_isub dX8_saveTo_9 ?_
    refine a_icmp_le 14 dX8_saveTo_10 (by decide) (fun c2 => ?_) (fun c2 => ?_)
    · replace k := k.1 c2
      refine a_aload_n dX8_saveTo_14 rfl ?_
      refine a_iload_n dX8_saveTo_15 rfl ?_
      refine a_aload_n dX8_saveTo_16 rfl ?_
      refine a_getI dX8_saveTo_17 fF_RX8_31 rfl rfl ?_
      obtain ⟨e3, k⟩ := k
      refine a_iast dX8_saveTo_20 rfl e3 ?_
      refine a_aload_n dX8_saveTo_21 rfl ?_
      refine a_getR dX8_saveTo_22 fF_RX8_9 rfl rfl ?_
      refine a_iconst dX8_saveTo_25 (v := nI 0) (by decide) ?_
      refine a_aload_n dX8_saveTo_26 rfl ?_
      refine a_iload_n dX8_saveTo_27 rfl ?_
      refine a_iconst dX8_saveTo_28 (v := nI 1) (by decide) ?_
      refine a_iadd dX8_saveTo_29 ?_
      refine a_bipush dX8_saveTo_30 (v := nI 6) (by decide) ?_
      obtain ⟨e4, e5, e6, e7, e8, k⟩ := k
      refine a_copy dX8_saveTo_32 lC_RX8_35 wCopy rfl rfl (by decide) (Nat.le_of_ble_eq_true rfl) e4 e5 e6 e7 e8 ?_
      refine a_aload_n dX8_saveTo_35 rfl ?_
      refine a_getR dX8_saveTo_36 fF_RX8_15 rfl rfl ?_
      refine a_iconst dX8_saveTo_39 (v := nI 0) (by decide) ?_
      refine a_aload_n dX8_saveTo_40 rfl ?_
      refine a_iload_n dX8_saveTo_41 rfl ?_
      refine a_iconst dX8_saveTo_42 (v := nI 1) (by decide) ?_
      refine a_iadd dX8_saveTo_43 ?_
      refine a_bipush dX8_saveTo_44 (v := nI 6) (by decide) ?_
      refine a_iadd dX8_saveTo_46 ?_
      refine a_bipush dX8_saveTo_47 (v := nI 6) (by decide) ?_
      obtain ⟨e9, e10, e11, e12, e13, k⟩ := k
      refine a_copy dX8_saveTo_49 lC_RX8_35 wCopy rfl rfl (by decide) (Nat.le_of_ble_eq_true rfl) e9 e10 e11 e12 e13 ?_
      refine a_aload_n dX8_saveTo_52 rfl ?_
      refine a_getR dX8_saveTo_53 fF_RX8_18 rfl rfl ?_
      refine a_iconst dX8_saveTo_56 (v := nI 0) (by decide) ?_
      refine a_aload_n dX8_saveTo_57 rfl ?_
      refine a_iload_n dX8_saveTo_58 rfl ?_
      refine a_iconst dX8_saveTo_59 (v := nI 1) (by decide) ?_
      refine a_iadd dX8_saveTo_60 ?_
      refine a_bipush dX8_saveTo_61 (v := nI 12) (by decide) ?_
      refine a_iadd dX8_saveTo_63 ?_
      refine a_bipush dX8_saveTo_64 (v := nI 6) (by decide) ?_
      obtain ⟨e14, e15, e16, e17, e18, k⟩ := k
      refine a_copy dX8_saveTo_66 lC_RX8_35 wCopy rfl rfl (by decide) (Nat.le_of_ble_eq_true rfl) e14 e15 e16 e17 e18 ?_
      refine a_aload_n dX8_saveTo_69 rfl ?_
      refine a_getR dX8_saveTo_70 fF_RX8_21 rfl rfl ?_
      refine a_iconst dX8_saveTo_73 (v := nI 0) (by decide) ?_
      refine a_aload_n dX8_saveTo_74 rfl ?_
      refine a_iload_n dX8_saveTo_75 rfl ?_
      refine a_iconst dX8_saveTo_76 (v := nI 1) (by decide) ?_
      refine a_iadd dX8_saveTo_77 ?_
      refine a_bipush dX8_saveTo_78 (v := nI 18) (by decide) ?_
      refine a_iadd dX8_saveTo_80 ?_
      refine a_bipush dX8_saveTo_81 (v := nI 6) (by decide) ?_
      obtain ⟨e19, e20, e21, e22, e23, k⟩ := k
      refine a_copy dX8_saveTo_83 lC_RX8_35 wCopy rfl rfl (by decide) (Nat.le_of_ble_eq_true rfl) e19 e20 e21 e22 e23 ?_
      refine a_aload_n dX8_saveTo_86 rfl ?_
      refine a_getR dX8_saveTo_87 fF_RX8_24 rfl rfl ?_
      refine a_iconst dX8_saveTo_90 (v := nI 0) (by decide) ?_
      refine a_aload_n dX8_saveTo_91 rfl ?_
      refine a_iload_n dX8_saveTo_92 rfl ?_
      refine a_iconst dX8_saveTo_93 (v := nI 1) (by decide) ?_
      refine a_iadd dX8_saveTo_94 ?_
      refine a_bipush dX8_saveTo_95 (v := nI 24) (by decide) ?_
      refine a_iadd dX8_saveTo_97 ?_
      refine a_bipush dX8_saveTo_98 (v := nI 6) (by decide) ?_
      obtain ⟨e24, e25, e26, e27, e28, k⟩ := k
      refine a_copy dX8_saveTo_100 lC_RX8_35 wCopy rfl rfl (by decide) (Nat.le_of_ble_eq_true rfl) e24 e25 e26 e27 e28 ?_
      exact a_vret dX8_saveTo_103 rfl k
    · replace k := k.2 c2
      exact a_vret dX8_saveTo_13 rfl k
theorem e_X8_saveTo_57 {G : dh_G} {x2 : Int32} {h : dh_H} {Q : Option Value → dh_H → Prop} (k : ((x2 < 0) → Q none h) ∧ ((¬ x2 < 0) → ((x2 ≤ ((nI 31) - (nI 31))) → (vp_in x2 31) ∧ (¬ nI 0 < 0) ∧ (¬ x2 + (nI 1) < 0) ∧ (¬ nI 6 < 0) ∧ ((nI 0).toNatClampNeg + (nI 6).toNatClampNeg ≤ 6) ∧ ((x2 + (nI 1)).toNatClampNeg + (nI 6).toNatClampNeg ≤ 31) ∧ (¬ nI 0 < 0) ∧ (¬ (x2 + (nI 1)) + (nI 6) < 0) ∧ (¬ nI 6 < 0) ∧ ((nI 0).toNatClampNeg + (nI 6).toNatClampNeg ≤ 6) ∧ (((x2 + (nI 1)) + (nI 6)).toNatClampNeg + (nI 6).toNatClampNeg ≤ 31) ∧ (¬ nI 0 < 0) ∧ (¬ (x2 + (nI 1)) + (nI 12) < 0) ∧ (¬ nI 6 < 0) ∧ ((nI 0).toNatClampNeg + (nI 6).toNatClampNeg ≤ 6) ∧ (((x2 + (nI 1)) + (nI 12)).toNatClampNeg + (nI 6).toNatClampNeg ≤ 31) ∧ (¬ nI 0 < 0) ∧ (¬ (x2 + (nI 1)) + (nI 18) < 0) ∧ (¬ nI 6 < 0) ∧ ((nI 0).toNatClampNeg + (nI 6).toNatClampNeg ≤ 6) ∧ (((x2 + (nI 1)) + (nI 18)).toNatClampNeg + (nI 6).toNatClampNeg ≤ 31) ∧ (¬ nI 0 < 0) ∧ (¬ (x2 + (nI 1)) + (nI 24) < 0) ∧ (¬ nI 6 < 0) ∧ ((nI 0).toNatClampNeg + (nI 6).toNatClampNeg ≤ 6) ∧ (((x2 + (nI 1)) + (nI 24)).toNatClampNeg + (nI 6).toNatClampNeg ≤ 31) ∧ Q none (dh_c (dh_c (dh_c (dh_c (dh_c (dh_s h 57 x2.toNatClampNeg (h 19 1)) 20 57 (nI 0).toNatClampNeg (x2 + (nI 1)).toNatClampNeg (nI 6).toNatClampNeg) 21 57 (nI 0).toNatClampNeg ((x2 + (nI 1)) + (nI 6)).toNatClampNeg (nI 6).toNatClampNeg) 22 57 (nI 0).toNatClampNeg ((x2 + (nI 1)) + (nI 12)).toNatClampNeg (nI 6).toNatClampNeg) 23 57 (nI 0).toNatClampNeg ((x2 + (nI 1)) + (nI 18)).toNatClampNeg (nI 6).toNatClampNeg) 24 57 (nI 0).toNatClampNeg ((x2 + (nI 1)) + (nI 24)).toNatClampNeg (nI 6).toNatClampNeg)) ∧ ((¬ x2 ≤ ((nI 31) - (nI 31))) → Q none h))) : dh_C G mX8_saveTo [.ref 19, .ref 57, .int (x2)] h Q := dh_C_of [some (.ref 19), some (.ref 57), some (.int (x2))] (by decide) (Nat.le_of_ble_eq_true rfl) rfl (w_X8_saveTo_57_0 k)
set_option maxRecDepth 100000 in
theorem w_X8_saveTo_59_0 {G : dh_G} {x2 : Int32} {h : dh_H} {Q : Option Value → dh_H → Prop} (k : ((x2 < 0) → Q none h) ∧ ((¬ x2 < 0) → ((x2 ≤ ((nI 31) - (nI 31))) → (vp_in x2 31) ∧ (¬ nI 0 < 0) ∧ (¬ x2 + (nI 1) < 0) ∧ (¬ nI 6 < 0) ∧ ((nI 0).toNatClampNeg + (nI 6).toNatClampNeg ≤ 6) ∧ ((x2 + (nI 1)).toNatClampNeg + (nI 6).toNatClampNeg ≤ 31) ∧ (¬ nI 0 < 0) ∧ (¬ (x2 + (nI 1)) + (nI 6) < 0) ∧ (¬ nI 6 < 0) ∧ ((nI 0).toNatClampNeg + (nI 6).toNatClampNeg ≤ 6) ∧ (((x2 + (nI 1)) + (nI 6)).toNatClampNeg + (nI 6).toNatClampNeg ≤ 31) ∧ (¬ nI 0 < 0) ∧ (¬ (x2 + (nI 1)) + (nI 12) < 0) ∧ (¬ nI 6 < 0) ∧ ((nI 0).toNatClampNeg + (nI 6).toNatClampNeg ≤ 6) ∧ (((x2 + (nI 1)) + (nI 12)).toNatClampNeg + (nI 6).toNatClampNeg ≤ 31) ∧ (¬ nI 0 < 0) ∧ (¬ (x2 + (nI 1)) + (nI 18) < 0) ∧ (¬ nI 6 < 0) ∧ ((nI 0).toNatClampNeg + (nI 6).toNatClampNeg ≤ 6) ∧ (((x2 + (nI 1)) + (nI 18)).toNatClampNeg + (nI 6).toNatClampNeg ≤ 31) ∧ (¬ nI 0 < 0) ∧ (¬ (x2 + (nI 1)) + (nI 24) < 0) ∧ (¬ nI 6 < 0) ∧ ((nI 0).toNatClampNeg + (nI 6).toNatClampNeg ≤ 6) ∧ (((x2 + (nI 1)) + (nI 24)).toNatClampNeg + (nI 6).toNatClampNeg ≤ 31) ∧ Q none (dh_c (dh_c (dh_c (dh_c (dh_c (dh_s h 59 x2.toNatClampNeg (h 19 1)) 20 59 (nI 0).toNatClampNeg (x2 + (nI 1)).toNatClampNeg (nI 6).toNatClampNeg) 21 59 (nI 0).toNatClampNeg ((x2 + (nI 1)) + (nI 6)).toNatClampNeg (nI 6).toNatClampNeg) 22 59 (nI 0).toNatClampNeg ((x2 + (nI 1)) + (nI 12)).toNatClampNeg (nI 6).toNatClampNeg) 23 59 (nI 0).toNatClampNeg ((x2 + (nI 1)) + (nI 18)).toNatClampNeg (nI 6).toNatClampNeg) 24 59 (nI 0).toNatClampNeg ((x2 + (nI 1)) + (nI 24)).toNatClampNeg (nI 6).toNatClampNeg)) ∧ ((¬ x2 ≤ ((nI 31) - (nI 31))) → Q none h))) : dh_J G mX8_saveTo 0 [some (.ref 19), some (.ref 59), some (.int (x2))] [] h Q := by
  refine a_iload_n dX8_saveTo_0 rfl ?_
  refine a_if_lt 13 dX8_saveTo_1 (by decide) (fun c1 => ?_) (fun c1 => ?_)
  · replace k := k.1 c1
    exact a_vret dX8_saveTo_13 rfl k
  · replace k := k.2 c1
    refine a_iload_n dX8_saveTo_4 rfl ?_
    refine a_aload_n dX8_saveTo_5 rfl ?_
    refine a_alenI dX8_saveTo_6 rfl ?_
    refine a_bipush dX8_saveTo_7 (v := nI 31) (by decide) ?_
    refine a_isub dX8_saveTo_9 ?_
    refine a_icmp_le 14 dX8_saveTo_10 (by decide) (fun c2 => ?_) (fun c2 => ?_)
    · replace k := k.1 c2
      refine a_aload_n dX8_saveTo_14 rfl ?_
      refine a_iload_n dX8_saveTo_15 rfl ?_
      refine a_aload_n dX8_saveTo_16 rfl ?_
      refine a_getI dX8_saveTo_17 fF_RX8_31 rfl rfl ?_
      obtain ⟨e3, k⟩ := k
      refine a_iast dX8_saveTo_20 rfl e3 ?_
      refine a_aload_n dX8_saveTo_21 rfl ?_
      refine a_getR dX8_saveTo_22 fF_RX8_9 rfl rfl ?_
      refine a_iconst dX8_saveTo_25 (v := nI 0) (by decide) ?_
      refine a_aload_n dX8_saveTo_26 rfl ?_
      refine a_iload_n dX8_saveTo_27 rfl ?_
      refine a_iconst dX8_saveTo_28 (v := nI 1) (by decide) ?_
      refine a_iadd dX8_saveTo_29 ?_
      refine a_bipush dX8_saveTo_30 (v := nI 6) (by decide) ?_
      obtain ⟨e4, e5, e6, e7, e8, k⟩ := k
      refine a_copy dX8_saveTo_32 lC_RX8_35 wCopy rfl rfl (by decide) (Nat.le_of_ble_eq_true rfl) e4 e5 e6 e7 e8 ?_
      refine a_aload_n dX8_saveTo_35 rfl ?_
      refine a_getR dX8_saveTo_36 fF_RX8_15 rfl rfl ?_
      refine a_iconst dX8_saveTo_39 (v := nI 0) (by decide) ?_
      refine a_aload_n dX8_saveTo_40 rfl ?_
      refine a_iload_n dX8_saveTo_41 rfl ?_
      refine a_iconst dX8_saveTo_42 (v := nI 1) (by decide) ?_
      refine a_iadd dX8_saveTo_43 ?_
      refine a_bipush dX8_saveTo_44 (v := nI 6) (by decide) ?_
      refine a_iadd dX8_saveTo_46 ?_
      refine a_bipush dX8_saveTo_47 (v := nI 6) (by decide) ?_
      obtain ⟨e9, e10, e11, e12, e13, k⟩ := k
      refine a_copy dX8_saveTo_49 lC_RX8_35 wCopy rfl rfl (by decide) (Nat.le_of_ble_eq_true rfl) e9 e10 e11 e12 e13 ?_
      refine a_aload_n dX8_saveTo_52 rfl ?_
      refine a_getR dX8_saveTo_53 fF_RX8_18 rfl rfl ?_
      refine a_iconst dX8_saveTo_56 (v := nI 0) (by decide) ?_
      refine a_aload_n dX8_saveTo_57 rfl ?_
      refine a_iload_n dX8_saveTo_58 rfl ?_
      refine a_iconst dX8_saveTo_59 (v := nI 1) (by decide) ?_
      refine a_iadd dX8_saveTo_60 ?_
      refine a_bipush dX8_saveTo_61 (v := nI 12) (by decide) ?_
      refine a_iadd dX8_saveTo_63 ?_
      refine a_bipush dX8_saveTo_64 (v := nI 6) (by decide) ?_
      obtain ⟨e14, e15, e16, e17, e18, k⟩ := k
      refine a_copy dX8_saveTo_66 lC_RX8_35 wCopy rfl rfl (by decide) (Nat.le_of_ble_eq_true rfl) e14 e15 e16 e17 e18 ?_
      refine a_aload_n dX8_saveTo_69 rfl ?_
      refine a_getR dX8_saveTo_70 fF_RX8_21 rfl rfl ?_
      refine a_iconst dX8_saveTo_73 (v := nI 0) (by decide) ?_
      refine a_aload_n dX8_saveTo_74 rfl ?_
      refine a_iload_n dX8_saveTo_75 rfl ?_
      refine a_iconst dX8_saveTo_76 (v := nI 1) (by decide) ?_
      refine a_iadd dX8_saveTo_77 ?_
      refine a_bipush dX8_saveTo_78 (v := nI 18) (by decide) ?_
      refine a_iadd dX8_saveTo_80 ?_
      refine a_bipush dX8_saveTo_81 (v := nI 6) (by decide) ?_
      obtain ⟨e19, e20, e21, e22, e23, k⟩ := k
      refine a_copy dX8_saveTo_83 lC_RX8_35 wCopy rfl rfl (by decide) (Nat.le_of_ble_eq_true rfl) e19 e20 e21 e22 e23 ?_
      refine a_aload_n dX8_saveTo_86 rfl ?_
      refine a_getR dX8_saveTo_87 fF_RX8_24 rfl rfl ?_
      refine a_iconst dX8_saveTo_90 (v := nI 0) (by decide) ?_
      refine a_aload_n dX8_saveTo_91 rfl ?_
      refine a_iload_n dX8_saveTo_92 rfl ?_
      refine a_iconst dX8_saveTo_93 (v := nI 1) (by decide) ?_
      refine a_iadd dX8_saveTo_94 ?_
      refine a_bipush dX8_saveTo_95 (v := nI 24) (by decide) ?_
      refine a_iadd dX8_saveTo_97 ?_
      refine a_bipush dX8_saveTo_98 (v := nI 6) (by decide) ?_
      obtain ⟨e24, e25, e26, e27, e28, k⟩ := k
      refine a_copy dX8_saveTo_100 lC_RX8_35 wCopy rfl rfl (by decide) (Nat.le_of_ble_eq_true rfl) e24 e25 e26 e27 e28 ?_
      exact a_vret dX8_saveTo_103 rfl k
    · replace k := k.2 c2
      exact a_vret dX8_saveTo_13 rfl k
theorem e_X8_saveTo_59 {G : dh_G} {x2 : Int32} {h : dh_H} {Q : Option Value → dh_H → Prop} (k : ((x2 < 0) → Q none h) ∧ ((¬ x2 < 0) → ((x2 ≤ ((nI 31) - (nI 31))) → (vp_in x2 31) ∧ (¬ nI 0 < 0) ∧ (¬ x2 + (nI 1) < 0) ∧ (¬ nI 6 < 0) ∧ ((nI 0).toNatClampNeg + (nI 6).toNatClampNeg ≤ 6) ∧ ((x2 + (nI 1)).toNatClampNeg + (nI 6).toNatClampNeg ≤ 31) ∧ (¬ nI 0 < 0) ∧ (¬ (x2 + (nI 1)) + (nI 6) < 0) ∧ (¬ nI 6 < 0) ∧ ((nI 0).toNatClampNeg + (nI 6).toNatClampNeg ≤ 6) ∧ (((x2 + (nI 1)) + (nI 6)).toNatClampNeg + (nI 6).toNatClampNeg ≤ 31) ∧ (¬ nI 0 < 0) ∧ (¬ (x2 + (nI 1)) + (nI 12) < 0) ∧ (¬ nI 6 < 0) ∧ ((nI 0).toNatClampNeg + (nI 6).toNatClampNeg ≤ 6) ∧ (((x2 + (nI 1)) + (nI 12)).toNatClampNeg + (nI 6).toNatClampNeg ≤ 31) ∧ (¬ nI 0 < 0) ∧ (¬ (x2 + (nI 1)) + (nI 18) < 0) ∧ (¬ nI 6 < 0) ∧ ((nI 0).toNatClampNeg + (nI 6).toNatClampNeg ≤ 6) ∧ (((x2 + (nI 1)) + (nI 18)).toNatClampNeg + (nI 6).toNatClampNeg ≤ 31) ∧ (¬ nI 0 < 0) ∧ (¬ (x2 + (nI 1)) + (nI 24) < 0) ∧ (¬ nI 6 < 0) ∧ ((nI 0).toNatClampNeg + (nI 6).toNatClampNeg ≤ 6) ∧ (((x2 + (nI 1)) + (nI 24)).toNatClampNeg + (nI 6).toNatClampNeg ≤ 31) ∧ Q none (dh_c (dh_c (dh_c (dh_c (dh_c (dh_s h 59 x2.toNatClampNeg (h 19 1)) 20 59 (nI 0).toNatClampNeg (x2 + (nI 1)).toNatClampNeg (nI 6).toNatClampNeg) 21 59 (nI 0).toNatClampNeg ((x2 + (nI 1)) + (nI 6)).toNatClampNeg (nI 6).toNatClampNeg) 22 59 (nI 0).toNatClampNeg ((x2 + (nI 1)) + (nI 12)).toNatClampNeg (nI 6).toNatClampNeg) 23 59 (nI 0).toNatClampNeg ((x2 + (nI 1)) + (nI 18)).toNatClampNeg (nI 6).toNatClampNeg) 24 59 (nI 0).toNatClampNeg ((x2 + (nI 1)) + (nI 24)).toNatClampNeg (nI 6).toNatClampNeg)) ∧ ((¬ x2 ≤ ((nI 31) - (nI 31))) → Q none h))) : dh_C G mX8_saveTo [.ref 19, .ref 59, .int (x2)] h Q := dh_C_of [some (.ref 19), some (.ref 59), some (.int (x2))] (by decide) (Nat.le_of_ble_eq_true rfl) rfl (w_X8_saveTo_59_0 k)
set_option maxRecDepth 100000 in
theorem w_X8_loadFrom_26_0 {G : dh_G} {x2 : Int32} {h : dh_H} {Q : Option Value → dh_H → Prop} (k : ((x2 < 0) → Q none h) ∧ ((¬ x2 < 0) → ((x2 ≤ ((nI 620) - (nI 31))) → (vp_in x2 620) ∧ (¬ x2 + (nI 1) < 0) ∧ (¬ nI 0 < 0) ∧ (¬ nI 6 < 0) ∧ ((x2 + (nI 1)).toNatClampNeg + (nI 6).toNatClampNeg ≤ 620) ∧ ((nI 0).toNatClampNeg + (nI 6).toNatClampNeg ≤ 6) ∧ (¬ (x2 + (nI 1)) + (nI 6) < 0) ∧ (¬ nI 0 < 0) ∧ (¬ nI 6 < 0) ∧ (((x2 + (nI 1)) + (nI 6)).toNatClampNeg + (nI 6).toNatClampNeg ≤ 620) ∧ ((nI 0).toNatClampNeg + (nI 6).toNatClampNeg ≤ 6) ∧ (¬ (x2 + (nI 1)) + (nI 12) < 0) ∧ (¬ nI 0 < 0) ∧ (¬ nI 6 < 0) ∧ (((x2 + (nI 1)) + (nI 12)).toNatClampNeg + (nI 6).toNatClampNeg ≤ 620) ∧ ((nI 0).toNatClampNeg + (nI 6).toNatClampNeg ≤ 6) ∧ (¬ (x2 + (nI 1)) + (nI 18) < 0) ∧ (¬ nI 0 < 0) ∧ (¬ nI 6 < 0) ∧ (((x2 + (nI 1)) + (nI 18)).toNatClampNeg + (nI 6).toNatClampNeg ≤ 620) ∧ ((nI 0).toNatClampNeg + (nI 6).toNatClampNeg ≤ 6) ∧ (¬ (x2 + (nI 1)) + (nI 24) < 0) ∧ (¬ nI 0 < 0) ∧ (¬ nI 6 < 0) ∧ (((x2 + (nI 1)) + (nI 24)).toNatClampNeg + (nI 6).toNatClampNeg ≤ 620) ∧ ((nI 0).toNatClampNeg + (nI 6).toNatClampNeg ≤ 6) ∧ Q none (dh_c (dh_c (dh_c (dh_c (dh_c (dh_s h 19 1 (h 26 x2.toNatClampNeg)) 26 20 (x2 + (nI 1)).toNatClampNeg (nI 0).toNatClampNeg (nI 6).toNatClampNeg) 26 21 ((x2 + (nI 1)) + (nI 6)).toNatClampNeg (nI 0).toNatClampNeg (nI 6).toNatClampNeg) 26 22 ((x2 + (nI 1)) + (nI 12)).toNatClampNeg (nI 0).toNatClampNeg (nI 6).toNatClampNeg) 26 23 ((x2 + (nI 1)) + (nI 18)).toNatClampNeg (nI 0).toNatClampNeg (nI 6).toNatClampNeg) 26 24 ((x2 + (nI 1)) + (nI 24)).toNatClampNeg (nI 0).toNatClampNeg (nI 6).toNatClampNeg)) ∧ ((¬ x2 ≤ ((nI 620) - (nI 31))) → Q none h))) : dh_J G mX8_loadFrom 0 [some (.ref 19), some (.ref 26), some (.int (x2))] [] h Q := by
  refine a_iload_n dX8_loadFrom_0 rfl ?_
  refine a_if_lt 13 dX8_loadFrom_1 (by decide) (fun c1 => ?_) (fun c1 => ?_)
  · replace k := k.1 c1
    exact a_vret dX8_loadFrom_13 rfl k
  · replace k := k.2 c1
    refine a_iload_n dX8_loadFrom_4 rfl ?_
    refine a_aload_n dX8_loadFrom_5 rfl ?_
    refine a_alenI dX8_loadFrom_6 rfl ?_
    refine a_bipush dX8_loadFrom_7 (v := nI 31) (by decide) ?_
    refine a_isub dX8_loadFrom_9 ?_
    refine a_icmp_le 14 dX8_loadFrom_10 (by decide) (fun c2 => ?_) (fun c2 => ?_)
    · replace k := k.1 c2
      refine a_aload_n dX8_loadFrom_14 rfl ?_
      refine a_aload_n dX8_loadFrom_15 rfl ?_
      refine a_iload_n dX8_loadFrom_16 rfl ?_
      obtain ⟨e3, k⟩ := k
      refine a_iald dX8_loadFrom_17 rfl e3 ?_
      refine a_put dX8_loadFrom_18 fF_RX8_31 rfl rfl rfl rfl ?_
      refine a_aload_n dX8_loadFrom_21 rfl ?_
      refine a_iload_n dX8_loadFrom_22 rfl ?_
      refine a_iconst dX8_loadFrom_23 (v := nI 1) (by decide) ?_
      refine a_iadd dX8_loadFrom_24 ?_
      refine a_aload_n dX8_loadFrom_25 rfl ?_
      refine a_getR dX8_loadFrom_26 fF_RX8_9 rfl rfl ?_
      refine a_iconst dX8_loadFrom_29 (v := nI 0) (by decide) ?_
      refine a_bipush dX8_loadFrom_30 (v := nI 6) (by decide) ?_
      obtain ⟨e4, e5, e6, e7, e8, k⟩ := k
      refine a_copy dX8_loadFrom_32 lC_RX8_35 wCopy rfl rfl (by decide) (Nat.le_of_ble_eq_true rfl) e4 e5 e6 e7 e8 ?_
      refine a_aload_n dX8_loadFrom_35 rfl ?_
      refine a_iload_n dX8_loadFrom_36 rfl ?_
      refine a_iconst dX8_loadFrom_37 (v := nI 1) (by decide) ?_
      refine a_iadd dX8_loadFrom_38 ?_
      refine a_bipush dX8_loadFrom_39 (v := nI 6) (by decide) ?_
      refine a_iadd dX8_loadFrom_41 ?_
      refine a_aload_n dX8_loadFrom_42 rfl ?_
      refine a_getR dX8_loadFrom_43 fF_RX8_15 rfl rfl ?_
      refine a_iconst dX8_loadFrom_46 (v := nI 0) (by decide) ?_
      refine a_bipush dX8_loadFrom_47 (v := nI 6) (by decide) ?_
      obtain ⟨e9, e10, e11, e12, e13, k⟩ := k
      refine a_copy dX8_loadFrom_49 lC_RX8_35 wCopy rfl rfl (by decide) (Nat.le_of_ble_eq_true rfl) e9 e10 e11 e12 e13 ?_
      refine a_aload_n dX8_loadFrom_52 rfl ?_
      refine a_iload_n dX8_loadFrom_53 rfl ?_
      refine a_iconst dX8_loadFrom_54 (v := nI 1) (by decide) ?_
      refine a_iadd dX8_loadFrom_55 ?_
      refine a_bipush dX8_loadFrom_56 (v := nI 12) (by decide) ?_
      refine a_iadd dX8_loadFrom_58 ?_
      refine a_aload_n dX8_loadFrom_59 rfl ?_
      refine a_getR dX8_loadFrom_60 fF_RX8_18 rfl rfl ?_
      refine a_iconst dX8_loadFrom_63 (v := nI 0) (by decide) ?_
      refine a_bipush dX8_loadFrom_64 (v := nI 6) (by decide) ?_
      obtain ⟨e14, e15, e16, e17, e18, k⟩ := k
      refine a_copy dX8_loadFrom_66 lC_RX8_35 wCopy rfl rfl (by decide) (Nat.le_of_ble_eq_true rfl) e14 e15 e16 e17 e18 ?_
      refine a_aload_n dX8_loadFrom_69 rfl ?_
      refine a_iload_n dX8_loadFrom_70 rfl ?_
      refine a_iconst dX8_loadFrom_71 (v := nI 1) (by decide) ?_
      refine a_iadd dX8_loadFrom_72 ?_
      refine a_bipush dX8_loadFrom_73 (v := nI 18) (by decide) ?_
      refine a_iadd dX8_loadFrom_75 ?_
      refine a_aload_n dX8_loadFrom_76 rfl ?_
      refine a_getR dX8_loadFrom_77 fF_RX8_21 rfl rfl ?_
      refine a_iconst dX8_loadFrom_80 (v := nI 0) (by decide) ?_
      refine a_bipush dX8_loadFrom_81 (v := nI 6) (by decide) ?_
      obtain ⟨e19, e20, e21, e22, e23, k⟩ := k
      refine a_copy dX8_loadFrom_83 lC_RX8_35 wCopy rfl rfl (by decide) (Nat.le_of_ble_eq_true rfl) e19 e20 e21 e22 e23 ?_
      refine a_aload_n dX8_loadFrom_86 rfl ?_
      refine a_iload_n dX8_loadFrom_87 rfl ?_
      refine a_iconst dX8_loadFrom_88 (v := nI 1) (by decide) ?_
      refine a_iadd dX8_loadFrom_89 ?_
      refine a_bipush dX8_loadFrom_90 (v := nI 24) (by decide) ?_
      refine a_iadd dX8_loadFrom_92 ?_
      refine a_aload_n dX8_loadFrom_93 rfl ?_
      refine a_getR dX8_loadFrom_94 fF_RX8_24 rfl rfl ?_
      refine a_iconst dX8_loadFrom_97 (v := nI 0) (by decide) ?_
      refine a_bipush dX8_loadFrom_98 (v := nI 6) (by decide) ?_
      obtain ⟨e24, e25, e26, e27, e28, k⟩ := k
      refine a_copy dX8_loadFrom_100 lC_RX8_35 wCopy rfl rfl (by decide) (Nat.le_of_ble_eq_true rfl) e24 e25 e26 e27 e28 ?_
      exact a_vret dX8_loadFrom_103 rfl k
    · replace k := k.2 c2
      exact a_vret dX8_loadFrom_13 rfl k
theorem e_X8_loadFrom_26 {G : dh_G} {x2 : Int32} {h : dh_H} {Q : Option Value → dh_H → Prop} (k : ((x2 < 0) → Q none h) ∧ ((¬ x2 < 0) → ((x2 ≤ ((nI 620) - (nI 31))) → (vp_in x2 620) ∧ (¬ x2 + (nI 1) < 0) ∧ (¬ nI 0 < 0) ∧ (¬ nI 6 < 0) ∧ ((x2 + (nI 1)).toNatClampNeg + (nI 6).toNatClampNeg ≤ 620) ∧ ((nI 0).toNatClampNeg + (nI 6).toNatClampNeg ≤ 6) ∧ (¬ (x2 + (nI 1)) + (nI 6) < 0) ∧ (¬ nI 0 < 0) ∧ (¬ nI 6 < 0) ∧ (((x2 + (nI 1)) + (nI 6)).toNatClampNeg + (nI 6).toNatClampNeg ≤ 620) ∧ ((nI 0).toNatClampNeg + (nI 6).toNatClampNeg ≤ 6) ∧ (¬ (x2 + (nI 1)) + (nI 12) < 0) ∧ (¬ nI 0 < 0) ∧ (¬ nI 6 < 0) ∧ (((x2 + (nI 1)) + (nI 12)).toNatClampNeg + (nI 6).toNatClampNeg ≤ 620) ∧ ((nI 0).toNatClampNeg + (nI 6).toNatClampNeg ≤ 6) ∧ (¬ (x2 + (nI 1)) + (nI 18) < 0) ∧ (¬ nI 0 < 0) ∧ (¬ nI 6 < 0) ∧ (((x2 + (nI 1)) + (nI 18)).toNatClampNeg + (nI 6).toNatClampNeg ≤ 620) ∧ ((nI 0).toNatClampNeg + (nI 6).toNatClampNeg ≤ 6) ∧ (¬ (x2 + (nI 1)) + (nI 24) < 0) ∧ (¬ nI 0 < 0) ∧ (¬ nI 6 < 0) ∧ (((x2 + (nI 1)) + (nI 24)).toNatClampNeg + (nI 6).toNatClampNeg ≤ 620) ∧ ((nI 0).toNatClampNeg + (nI 6).toNatClampNeg ≤ 6) ∧ Q none (dh_c (dh_c (dh_c (dh_c (dh_c (dh_s h 19 1 (h 26 x2.toNatClampNeg)) 26 20 (x2 + (nI 1)).toNatClampNeg (nI 0).toNatClampNeg (nI 6).toNatClampNeg) 26 21 ((x2 + (nI 1)) + (nI 6)).toNatClampNeg (nI 0).toNatClampNeg (nI 6).toNatClampNeg) 26 22 ((x2 + (nI 1)) + (nI 12)).toNatClampNeg (nI 0).toNatClampNeg (nI 6).toNatClampNeg) 26 23 ((x2 + (nI 1)) + (nI 18)).toNatClampNeg (nI 0).toNatClampNeg (nI 6).toNatClampNeg) 26 24 ((x2 + (nI 1)) + (nI 24)).toNatClampNeg (nI 0).toNatClampNeg (nI 6).toNatClampNeg)) ∧ ((¬ x2 ≤ ((nI 620) - (nI 31))) → Q none h))) : dh_C G mX8_loadFrom [.ref 19, .ref 26, .int (x2)] h Q := dh_C_of [some (.ref 19), some (.ref 26), some (.int (x2))] (by decide) (Nat.le_of_ble_eq_true rfl) rfl (w_X8_loadFrom_26_0 k)
set_option maxRecDepth 100000 in
theorem w_X8_loadFrom_57_0 {G : dh_G} {x2 : Int32} {h : dh_H} {Q : Option Value → dh_H → Prop} (k : ((x2 < 0) → Q none h) ∧ ((¬ x2 < 0) → ((x2 ≤ ((nI 31) - (nI 31))) → (vp_in x2 31) ∧ (¬ x2 + (nI 1) < 0) ∧ (¬ nI 0 < 0) ∧ (¬ nI 6 < 0) ∧ ((x2 + (nI 1)).toNatClampNeg + (nI 6).toNatClampNeg ≤ 31) ∧ ((nI 0).toNatClampNeg + (nI 6).toNatClampNeg ≤ 6) ∧ (¬ (x2 + (nI 1)) + (nI 6) < 0) ∧ (¬ nI 0 < 0) ∧ (¬ nI 6 < 0) ∧ (((x2 + (nI 1)) + (nI 6)).toNatClampNeg + (nI 6).toNatClampNeg ≤ 31) ∧ ((nI 0).toNatClampNeg + (nI 6).toNatClampNeg ≤ 6) ∧ (¬ (x2 + (nI 1)) + (nI 12) < 0) ∧ (¬ nI 0 < 0) ∧ (¬ nI 6 < 0) ∧ (((x2 + (nI 1)) + (nI 12)).toNatClampNeg + (nI 6).toNatClampNeg ≤ 31) ∧ ((nI 0).toNatClampNeg + (nI 6).toNatClampNeg ≤ 6) ∧ (¬ (x2 + (nI 1)) + (nI 18) < 0) ∧ (¬ nI 0 < 0) ∧ (¬ nI 6 < 0) ∧ (((x2 + (nI 1)) + (nI 18)).toNatClampNeg + (nI 6).toNatClampNeg ≤ 31) ∧ ((nI 0).toNatClampNeg + (nI 6).toNatClampNeg ≤ 6) ∧ (¬ (x2 + (nI 1)) + (nI 24) < 0) ∧ (¬ nI 0 < 0) ∧ (¬ nI 6 < 0) ∧ (((x2 + (nI 1)) + (nI 24)).toNatClampNeg + (nI 6).toNatClampNeg ≤ 31) ∧ ((nI 0).toNatClampNeg + (nI 6).toNatClampNeg ≤ 6) ∧ Q none (dh_c (dh_c (dh_c (dh_c (dh_c (dh_s h 19 1 (h 57 x2.toNatClampNeg)) 57 20 (x2 + (nI 1)).toNatClampNeg (nI 0).toNatClampNeg (nI 6).toNatClampNeg) 57 21 ((x2 + (nI 1)) + (nI 6)).toNatClampNeg (nI 0).toNatClampNeg (nI 6).toNatClampNeg) 57 22 ((x2 + (nI 1)) + (nI 12)).toNatClampNeg (nI 0).toNatClampNeg (nI 6).toNatClampNeg) 57 23 ((x2 + (nI 1)) + (nI 18)).toNatClampNeg (nI 0).toNatClampNeg (nI 6).toNatClampNeg) 57 24 ((x2 + (nI 1)) + (nI 24)).toNatClampNeg (nI 0).toNatClampNeg (nI 6).toNatClampNeg)) ∧ ((¬ x2 ≤ ((nI 31) - (nI 31))) → Q none h))) : dh_J G mX8_loadFrom 0 [some (.ref 19), some (.ref 57), some (.int (x2))] [] h Q := by
  refine a_iload_n dX8_loadFrom_0 rfl ?_
  refine a_if_lt 13 dX8_loadFrom_1 (by decide) (fun c1 => ?_) (fun c1 => ?_)
  · replace k := k.1 c1
    exact a_vret dX8_loadFrom_13 rfl k
  · replace k := k.2 c1
    refine a_iload_n dX8_loadFrom_4 rfl ?_
    refine a_aload_n dX8_loadFrom_5 rfl ?_
    refine a_alenI dX8_loadFrom_6 rfl ?_
    refine a_bipush dX8_loadFrom_7 (v := nI 31) (by decide) ?_
    refine a_isub dX8_loadFrom_9 ?_
    refine a_icmp_le 14 dX8_loadFrom_10 (by decide) (fun c2 => ?_) (fun c2 => ?_)
    · replace k := k.1 c2
      refine a_aload_n dX8_loadFrom_14 rfl ?_
      refine a_aload_n dX8_loadFrom_15 rfl ?_
      refine a_iload_n dX8_loadFrom_16 rfl ?_
      obtain ⟨e3, k⟩ := k
      refine a_iald dX8_loadFrom_17 rfl e3 ?_
      refine a_put dX8_loadFrom_18 fF_RX8_31 rfl rfl rfl rfl ?_
      refine a_aload_n dX8_loadFrom_21 rfl ?_
      refine a_iload_n dX8_loadFrom_22 rfl ?_
      refine a_iconst dX8_loadFrom_23 (v := nI 1) (by decide) ?_
      refine a_iadd dX8_loadFrom_24 ?_
      refine a_aload_n dX8_loadFrom_25 rfl ?_
      refine a_getR dX8_loadFrom_26 fF_RX8_9 rfl rfl ?_
      refine a_iconst dX8_loadFrom_29 (v := nI 0) (by decide) ?_
      refine a_bipush dX8_loadFrom_30 (v := nI 6) (by decide) ?_
      obtain ⟨e4, e5, e6, e7, e8, k⟩ := k
      refine a_copy dX8_loadFrom_32 lC_RX8_35 wCopy rfl rfl (by decide) (Nat.le_of_ble_eq_true rfl) e4 e5 e6 e7 e8 ?_
      refine a_aload_n dX8_loadFrom_35 rfl ?_
      refine a_iload_n dX8_loadFrom_36 rfl ?_
      refine a_iconst dX8_loadFrom_37 (v := nI 1) (by decide) ?_
      refine a_iadd dX8_loadFrom_38 ?_
      refine a_bipush dX8_loadFrom_39 (v := nI 6) (by decide) ?_
      refine a_iadd dX8_loadFrom_41 ?_
      refine a_aload_n dX8_loadFrom_42 rfl ?_
      refine a_getR dX8_loadFrom_43 fF_RX8_15 rfl rfl ?_
      refine a_iconst dX8_loadFrom_46 (v := nI 0) (by decide) ?_
      refine a_bipush dX8_loadFrom_47 (v := nI 6) (by decide) ?_
      obtain ⟨e9, e10, e11, e12, e13, k⟩ := k
      refine a_copy dX8_loadFrom_49 lC_RX8_35 wCopy rfl rfl (by decide) (Nat.le_of_ble_eq_true rfl) e9 e10 e11 e12 e13 ?_
      refine a_aload_n dX8_loadFrom_52 rfl ?_
      refine a_iload_n dX8_loadFrom_53 rfl ?_
      refine a_iconst dX8_loadFrom_54 (v := nI 1) (by decide) ?_
      refine a_iadd dX8_loadFrom_55 ?_
      refine a_bipush dX8_loadFrom_56 (v := nI 12) (by decide) ?_
      refine a_iadd dX8_loadFrom_58 ?_
      refine a_aload_n dX8_loadFrom_59 rfl ?_
      refine a_getR dX8_loadFrom_60 fF_RX8_18 rfl rfl ?_
      refine a_iconst dX8_loadFrom_63 (v := nI 0) (by decide) ?_
      refine a_bipush dX8_loadFrom_64 (v := nI 6) (by decide) ?_
      obtain ⟨e14, e15, e16, e17, e18, k⟩ := k
      refine a_copy dX8_loadFrom_66 lC_RX8_35 wCopy rfl rfl (by decide) (Nat.le_of_ble_eq_true rfl) e14 e15 e16 e17 e18 ?_
      refine a_aload_n dX8_loadFrom_69 rfl ?_
      refine a_iload_n dX8_loadFrom_70 rfl ?_
      refine a_iconst dX8_loadFrom_71 (v := nI 1) (by decide) ?_
      refine a_iadd dX8_loadFrom_72 ?_
      refine a_bipush dX8_loadFrom_73 (v := nI 18) (by decide) ?_
      refine a_iadd dX8_loadFrom_75 ?_
      refine a_aload_n dX8_loadFrom_76 rfl ?_
      refine a_getR dX8_loadFrom_77 fF_RX8_21 rfl rfl ?_
      refine a_iconst dX8_loadFrom_80 (v := nI 0) (by decide) ?_
      refine a_bipush dX8_loadFrom_81 (v := nI 6) (by decide) ?_
      obtain ⟨e19, e20, e21, e22, e23, k⟩ := k
      refine a_copy dX8_loadFrom_83 lC_RX8_35 wCopy rfl rfl (by decide) (Nat.le_of_ble_eq_true rfl) e19 e20 e21 e22 e23 ?_
      refine a_aload_n dX8_loadFrom_86 rfl ?_
      refine a_iload_n dX8_loadFrom_87 rfl ?_
      refine a_iconst dX8_loadFrom_88 (v := nI 1) (by decide) ?_
      refine a_iadd dX8_loadFrom_89 ?_
      refine a_bipush dX8_loadFrom_90 (v := nI 24) (by decide) ?_
      refine a_iadd dX8_loadFrom_92 ?_
      refine a_aload_n dX8_loadFrom_93 rfl ?_
      refine a_getR dX8_loadFrom_94 fF_RX8_24 rfl rfl ?_
      refine a_iconst dX8_loadFrom_97 (v := nI 0) (by decide) ?_
      refine a_bipush dX8_loadFrom_98 (v := nI 6) (by decide) ?_
      obtain ⟨e24, e25, e26, e27, e28, k⟩ := k
      refine a_copy dX8_loadFrom_100 lC_RX8_35 wCopy rfl rfl (by decide) (Nat.le_of_ble_eq_true rfl) e24 e25 e26 e27 e28 ?_
      exact a_vret dX8_loadFrom_103 rfl k
    · replace k := k.2 c2
      exact a_vret dX8_loadFrom_13 rfl k
theorem e_X8_loadFrom_57 {G : dh_G} {x2 : Int32} {h : dh_H} {Q : Option Value → dh_H → Prop} (k : ((x2 < 0) → Q none h) ∧ ((¬ x2 < 0) → ((x2 ≤ ((nI 31) - (nI 31))) → (vp_in x2 31) ∧ (¬ x2 + (nI 1) < 0) ∧ (¬ nI 0 < 0) ∧ (¬ nI 6 < 0) ∧ ((x2 + (nI 1)).toNatClampNeg + (nI 6).toNatClampNeg ≤ 31) ∧ ((nI 0).toNatClampNeg + (nI 6).toNatClampNeg ≤ 6) ∧ (¬ (x2 + (nI 1)) + (nI 6) < 0) ∧ (¬ nI 0 < 0) ∧ (¬ nI 6 < 0) ∧ (((x2 + (nI 1)) + (nI 6)).toNatClampNeg + (nI 6).toNatClampNeg ≤ 31) ∧ ((nI 0).toNatClampNeg + (nI 6).toNatClampNeg ≤ 6) ∧ (¬ (x2 + (nI 1)) + (nI 12) < 0) ∧ (¬ nI 0 < 0) ∧ (¬ nI 6 < 0) ∧ (((x2 + (nI 1)) + (nI 12)).toNatClampNeg + (nI 6).toNatClampNeg ≤ 31) ∧ ((nI 0).toNatClampNeg + (nI 6).toNatClampNeg ≤ 6) ∧ (¬ (x2 + (nI 1)) + (nI 18) < 0) ∧ (¬ nI 0 < 0) ∧ (¬ nI 6 < 0) ∧ (((x2 + (nI 1)) + (nI 18)).toNatClampNeg + (nI 6).toNatClampNeg ≤ 31) ∧ ((nI 0).toNatClampNeg + (nI 6).toNatClampNeg ≤ 6) ∧ (¬ (x2 + (nI 1)) + (nI 24) < 0) ∧ (¬ nI 0 < 0) ∧ (¬ nI 6 < 0) ∧ (((x2 + (nI 1)) + (nI 24)).toNatClampNeg + (nI 6).toNatClampNeg ≤ 31) ∧ ((nI 0).toNatClampNeg + (nI 6).toNatClampNeg ≤ 6) ∧ Q none (dh_c (dh_c (dh_c (dh_c (dh_c (dh_s h 19 1 (h 57 x2.toNatClampNeg)) 57 20 (x2 + (nI 1)).toNatClampNeg (nI 0).toNatClampNeg (nI 6).toNatClampNeg) 57 21 ((x2 + (nI 1)) + (nI 6)).toNatClampNeg (nI 0).toNatClampNeg (nI 6).toNatClampNeg) 57 22 ((x2 + (nI 1)) + (nI 12)).toNatClampNeg (nI 0).toNatClampNeg (nI 6).toNatClampNeg) 57 23 ((x2 + (nI 1)) + (nI 18)).toNatClampNeg (nI 0).toNatClampNeg (nI 6).toNatClampNeg) 57 24 ((x2 + (nI 1)) + (nI 24)).toNatClampNeg (nI 0).toNatClampNeg (nI 6).toNatClampNeg)) ∧ ((¬ x2 ≤ ((nI 31) - (nI 31))) → Q none h))) : dh_C G mX8_loadFrom [.ref 19, .ref 57, .int (x2)] h Q := dh_C_of [some (.ref 19), some (.ref 57), some (.int (x2))] (by decide) (Nat.le_of_ble_eq_true rfl) rfl (w_X8_loadFrom_57_0 k)
set_option maxRecDepth 100000 in
theorem w_X8_loadFrom_59_0 {G : dh_G} {x2 : Int32} {h : dh_H} {Q : Option Value → dh_H → Prop} (k : ((x2 < 0) → Q none h) ∧ ((¬ x2 < 0) → ((x2 ≤ ((nI 31) - (nI 31))) → (vp_in x2 31) ∧ (¬ x2 + (nI 1) < 0) ∧ (¬ nI 0 < 0) ∧ (¬ nI 6 < 0) ∧ ((x2 + (nI 1)).toNatClampNeg + (nI 6).toNatClampNeg ≤ 31) ∧ ((nI 0).toNatClampNeg + (nI 6).toNatClampNeg ≤ 6) ∧ (¬ (x2 + (nI 1)) + (nI 6) < 0) ∧ (¬ nI 0 < 0) ∧ (¬ nI 6 < 0) ∧ (((x2 + (nI 1)) + (nI 6)).toNatClampNeg + (nI 6).toNatClampNeg ≤ 31) ∧ ((nI 0).toNatClampNeg + (nI 6).toNatClampNeg ≤ 6) ∧ (¬ (x2 + (nI 1)) + (nI 12) < 0) ∧ (¬ nI 0 < 0) ∧ (¬ nI 6 < 0) ∧ (((x2 + (nI 1)) + (nI 12)).toNatClampNeg + (nI 6).toNatClampNeg ≤ 31) ∧ ((nI 0).toNatClampNeg + (nI 6).toNatClampNeg ≤ 6) ∧ (¬ (x2 + (nI 1)) + (nI 18) < 0) ∧ (¬ nI 0 < 0) ∧ (¬ nI 6 < 0) ∧ (((x2 + (nI 1)) + (nI 18)).toNatClampNeg + (nI 6).toNatClampNeg ≤ 31) ∧ ((nI 0).toNatClampNeg + (nI 6).toNatClampNeg ≤ 6) ∧ (¬ (x2 + (nI 1)) + (nI 24) < 0) ∧ (¬ nI 0 < 0) ∧ (¬ nI 6 < 0) ∧ (((x2 + (nI 1)) + (nI 24)).toNatClampNeg + (nI 6).toNatClampNeg ≤ 31) ∧ ((nI 0).toNatClampNeg + (nI 6).toNatClampNeg ≤ 6) ∧ Q none (dh_c (dh_c (dh_c (dh_c (dh_c (dh_s h 19 1 (h 59 x2.toNatClampNeg)) 59 20 (x2 + (nI 1)).toNatClampNeg (nI 0).toNatClampNeg (nI 6).toNatClampNeg) 59 21 ((x2 + (nI 1)) + (nI 6)).toNatClampNeg (nI 0).toNatClampNeg (nI 6).toNatClampNeg) 59 22 ((x2 + (nI 1)) + (nI 12)).toNatClampNeg (nI 0).toNatClampNeg (nI 6).toNatClampNeg) 59 23 ((x2 + (nI 1)) + (nI 18)).toNatClampNeg (nI 0).toNatClampNeg (nI 6).toNatClampNeg) 59 24 ((x2 + (nI 1)) + (nI 24)).toNatClampNeg (nI 0).toNatClampNeg (nI 6).toNatClampNeg)) ∧ ((¬ x2 ≤ ((nI 31) - (nI 31))) → Q none h))) : dh_J G mX8_loadFrom 0 [some (.ref 19), some (.ref 59), some (.int (x2))] [] h Q := by
  refine a_iload_n dX8_loadFrom_0 rfl ?_
  refine a_if_lt 13 dX8_loadFrom_1 (by decide) (fun c1 => ?_) (fun c1 => ?_)
  · replace k := k.1 c1
    exact a_vret dX8_loadFrom_13 rfl k
  · replace k := k.2 c1
    refine a_iload_n dX8_loadFrom_4 rfl ?_
    refine a_aload_n dX8_loadFrom_5 rfl ?_
    refine a_alenI dX8_loadFrom_6 rfl ?_
    refine a_bipush dX8_loadFrom_7 (v := nI 31) (by decide) ?_
    refine a_isub dX8_loadFrom_9 ?_
    refine a_icmp_le 14 dX8_loadFrom_10 (by decide) (fun c2 => ?_) (fun c2 => ?_)
    · replace k := k.1 c2
      refine a_aload_n dX8_loadFrom_14 rfl ?_
      refine a_aload_n dX8_loadFrom_15 rfl ?_
      refine a_iload_n dX8_loadFrom_16 rfl ?_
      obtain ⟨e3, k⟩ := k
      refine a_iald dX8_loadFrom_17 rfl e3 ?_
      refine a_put dX8_loadFrom_18 fF_RX8_31 rfl rfl rfl rfl ?_
      refine a_aload_n dX8_loadFrom_21 rfl ?_
      refine a_iload_n dX8_loadFrom_22 rfl ?_
      refine a_iconst dX8_loadFrom_23 (v := nI 1) (by decide) ?_
      refine a_iadd dX8_loadFrom_24 ?_
      refine a_aload_n dX8_loadFrom_25 rfl ?_
      refine a_getR dX8_loadFrom_26 fF_RX8_9 rfl rfl ?_
      refine a_iconst dX8_loadFrom_29 (v := nI 0) (by decide) ?_
      refine a_bipush dX8_loadFrom_30 (v := nI 6) (by decide) ?_
      obtain ⟨e4, e5, e6, e7, e8, k⟩ := k
      refine a_copy dX8_loadFrom_32 lC_RX8_35 wCopy rfl rfl (by decide) (Nat.le_of_ble_eq_true rfl) e4 e5 e6 e7 e8 ?_
      refine a_aload_n dX8_loadFrom_35 rfl ?_
      refine a_iload_n dX8_loadFrom_36 rfl ?_
      refine a_iconst dX8_loadFrom_37 (v := nI 1) (by decide) ?_
      refine a_iadd dX8_loadFrom_38 ?_
      refine a_bipush dX8_loadFrom_39 (v := nI 6) (by decide) ?_
      refine a_iadd dX8_loadFrom_41 ?_
      refine a_aload_n dX8_loadFrom_42 rfl ?_
      refine a_getR dX8_loadFrom_43 fF_RX8_15 rfl rfl ?_
      refine a_iconst dX8_loadFrom_46 (v := nI 0) (by decide) ?_
      refine a_bipush dX8_loadFrom_47 (v := nI 6) (by decide) ?_
      obtain ⟨e9, e10, e11, e12, e13, k⟩ := k
      refine a_copy dX8_loadFrom_49 lC_RX8_35 wCopy rfl rfl (by decide) (Nat.le_of_ble_eq_true rfl) e9 e10 e11 e12 e13 ?_
      refine a_aload_n dX8_loadFrom_52 rfl ?_
      refine a_iload_n dX8_loadFrom_53 rfl ?_
      refine a_iconst dX8_loadFrom_54 (v := nI 1) (by decide) ?_
      refine a_iadd dX8_loadFrom_55 ?_
      refine a_bipush dX8_loadFrom_56 (v := nI 12) (by decide) ?_
      refine a_iadd dX8_loadFrom_58 ?_
      refine a_aload_n dX8_loadFrom_59 rfl ?_
      refine a_getR dX8_loadFrom_60 fF_RX8_18 rfl rfl ?_
      refine a_iconst dX8_loadFrom_63 (v := nI 0) (by decide) ?_
      refine a_bipush dX8_loadFrom_64 (v := nI 6) (by decide) ?_
      obtain ⟨e14, e15, e16, e17, e18, k⟩ := k
      refine a_copy dX8_loadFrom_66 lC_RX8_35 wCopy rfl rfl (by decide) (Nat.le_of_ble_eq_true rfl) e14 e15 e16 e17 e18 ?_
      refine a_aload_n dX8_loadFrom_69 rfl ?_
      refine a_iload_n dX8_loadFrom_70 rfl ?_
      refine a_iconst dX8_loadFrom_71 (v := nI 1) (by decide) ?_
      refine a_iadd dX8_loadFrom_72 ?_
      refine a_bipush dX8_loadFrom_73 (v := nI 18) (by decide) ?_
      refine a_iadd dX8_loadFrom_75 ?_
      refine a_aload_n dX8_loadFrom_76 rfl ?_
      refine a_getR dX8_loadFrom_77 fF_RX8_21 rfl rfl ?_
      refine a_iconst dX8_loadFrom_80 (v := nI 0) (by decide) ?_
      refine a_bipush dX8_loadFrom_81 (v := nI 6) (by decide) ?_
      obtain ⟨e19, e20, e21, e22, e23, k⟩ := k
      refine a_copy dX8_loadFrom_83 lC_RX8_35 wCopy rfl rfl (by decide) (Nat.le_of_ble_eq_true rfl) e19 e20 e21 e22 e23 ?_
      refine a_aload_n dX8_loadFrom_86 rfl ?_
      refine a_iload_n dX8_loadFrom_87 rfl ?_
      refine a_iconst dX8_loadFrom_88 (v := nI 1) (by decide) ?_
      refine a_iadd dX8_loadFrom_89 ?_
      refine a_bipush dX8_loadFrom_90 (v := nI 24) (by decide) ?_
      refine a_iadd dX8_loadFrom_92 ?_
      refine a_aload_n dX8_loadFrom_93 rfl ?_
      refine a_getR dX8_loadFrom_94 fF_RX8_24 rfl rfl ?_
      refine a_iconst dX8_loadFrom_97 (v := nI 0) (by decide) ?_
      refine a_bipush dX8_loadFrom_98 (v := nI 6) (by decide) ?_
      obtain ⟨e24, e25, e26, e27, e28, k⟩ := k
      refine a_copy dX8_loadFrom_100 lC_RX8_35 wCopy rfl rfl (by decide) (Nat.le_of_ble_eq_true rfl) e24 e25 e26 e27 e28 ?_
      exact a_vret dX8_loadFrom_103 rfl k
    · replace k := k.2 c2
      exact a_vret dX8_loadFrom_13 rfl k
theorem e_X8_loadFrom_59 {G : dh_G} {x2 : Int32} {h : dh_H} {Q : Option Value → dh_H → Prop} (k : ((x2 < 0) → Q none h) ∧ ((¬ x2 < 0) → ((x2 ≤ ((nI 31) - (nI 31))) → (vp_in x2 31) ∧ (¬ x2 + (nI 1) < 0) ∧ (¬ nI 0 < 0) ∧ (¬ nI 6 < 0) ∧ ((x2 + (nI 1)).toNatClampNeg + (nI 6).toNatClampNeg ≤ 31) ∧ ((nI 0).toNatClampNeg + (nI 6).toNatClampNeg ≤ 6) ∧ (¬ (x2 + (nI 1)) + (nI 6) < 0) ∧ (¬ nI 0 < 0) ∧ (¬ nI 6 < 0) ∧ (((x2 + (nI 1)) + (nI 6)).toNatClampNeg + (nI 6).toNatClampNeg ≤ 31) ∧ ((nI 0).toNatClampNeg + (nI 6).toNatClampNeg ≤ 6) ∧ (¬ (x2 + (nI 1)) + (nI 12) < 0) ∧ (¬ nI 0 < 0) ∧ (¬ nI 6 < 0) ∧ (((x2 + (nI 1)) + (nI 12)).toNatClampNeg + (nI 6).toNatClampNeg ≤ 31) ∧ ((nI 0).toNatClampNeg + (nI 6).toNatClampNeg ≤ 6) ∧ (¬ (x2 + (nI 1)) + (nI 18) < 0) ∧ (¬ nI 0 < 0) ∧ (¬ nI 6 < 0) ∧ (((x2 + (nI 1)) + (nI 18)).toNatClampNeg + (nI 6).toNatClampNeg ≤ 31) ∧ ((nI 0).toNatClampNeg + (nI 6).toNatClampNeg ≤ 6) ∧ (¬ (x2 + (nI 1)) + (nI 24) < 0) ∧ (¬ nI 0 < 0) ∧ (¬ nI 6 < 0) ∧ (((x2 + (nI 1)) + (nI 24)).toNatClampNeg + (nI 6).toNatClampNeg ≤ 31) ∧ ((nI 0).toNatClampNeg + (nI 6).toNatClampNeg ≤ 6) ∧ Q none (dh_c (dh_c (dh_c (dh_c (dh_c (dh_s h 19 1 (h 59 x2.toNatClampNeg)) 59 20 (x2 + (nI 1)).toNatClampNeg (nI 0).toNatClampNeg (nI 6).toNatClampNeg) 59 21 ((x2 + (nI 1)) + (nI 6)).toNatClampNeg (nI 0).toNatClampNeg (nI 6).toNatClampNeg) 59 22 ((x2 + (nI 1)) + (nI 12)).toNatClampNeg (nI 0).toNatClampNeg (nI 6).toNatClampNeg) 59 23 ((x2 + (nI 1)) + (nI 18)).toNatClampNeg (nI 0).toNatClampNeg (nI 6).toNatClampNeg) 59 24 ((x2 + (nI 1)) + (nI 24)).toNatClampNeg (nI 0).toNatClampNeg (nI 6).toNatClampNeg)) ∧ ((¬ x2 ≤ ((nI 31) - (nI 31))) → Q none h))) : dh_C G mX8_loadFrom [.ref 19, .ref 59, .int (x2)] h Q := dh_C_of [some (.ref 19), some (.ref 59), some (.int (x2))] (by decide) (Nat.le_of_ble_eq_true rfl) rfl (w_X8_loadFrom_59_0 k)
set_option maxRecDepth 100000 in
theorem w_X8_holderOf_0 {G : dh_G} {x1 : Int32} {h : dh_H} {Q : Option Value → dh_H → Prop} (k : dh_C G mX5_hasDummy [.ref 3, .int (x1)] h (fun v h1 => dh_J G mX8_holderOf 8 [some (.ref 19), some (.int (x1))] (v.toList ++ []) h1 Q)) : dh_J G mX8_holderOf 0 [some (.ref 19), some (.int (x1))] [] h Q := by
  refine a_aload_n dX8_holderOf_0 rfl ?_
  refine a_getR dX8_holderOf_1 fF_RX8_27 rfl rfl ?_
  refine a_iload_n dX8_holderOf_4 rfl ?_
  exact a_callV1 dX8_holderOf_5 (dh_Y_up cY_RX8_41 (by decide)) rfl rfl (Nat.le_of_ble_eq_true rfl) k
theorem e_X8_holderOf {G : dh_G} {x1 : Int32} {h : dh_H} {Q : Option Value → dh_H → Prop} (k : dh_C G mX5_hasDummy [.ref 3, .int (x1)] h (fun v h1 => dh_J G mX8_holderOf 8 [some (.ref 19), some (.int (x1))] (v.toList ++ []) h1 Q)) : dh_C G mX8_holderOf [.ref 19, .int (x1)] h Q := dh_C_of [some (.ref 19), some (.int (x1))] (by decide) (Nat.le_of_ble_eq_true rfl) rfl (w_X8_holderOf_0 k)
set_option maxRecDepth 100000 in
theorem w_X8_holderOf_8 {G : dh_G} {x1 s0 : Int32} {h : dh_H} {Q : Option Value → dh_H → Prop} (k : ((s0 = 0) → Q (some (.int ((-1 : Int32)))) h) ∧ ((¬ s0 = 0) → (vp_in x1 6) ∧ (((h 20 x1.toNatClampNeg) < 0) → Q (some (.int ((-1 : Int32)))) h) ∧ ((¬ (h 20 x1.toNatClampNeg) < 0) → (vp_in x1 6) ∧ Q (some (.int (h 20 x1.toNatClampNeg))) h))) : dh_J G mX8_holderOf 8 [some (.ref 19), some (.int (x1))] [.int (s0)] h Q := by
  refine a_if_eq 29 dX8_holderOf_8 (by decide) (fun c1 => ?_) (fun c1 => ?_)
  · replace k := k.1 c1
    refine a_iconst dX8_holderOf_29 (v := (-1 : Int32)) (by decide) ?_
    exact a_iret dX8_holderOf_30 rfl k
  · replace k := k.2 c1
    refine a_aload_n dX8_holderOf_11 rfl ?_
    refine a_getR dX8_holderOf_12 fF_RX8_9 rfl rfl ?_
    refine a_iload_n dX8_holderOf_15 rfl ?_
    obtain ⟨e2, k⟩ := k
    refine a_iald dX8_holderOf_16 rfl e2 ?_
    refine a_if_lt 29 dX8_holderOf_17 (by decide) (fun c3 => ?_) (fun c3 => ?_)
    · replace k := k.1 c3
      refine a_iconst dX8_holderOf_29 (v := (-1 : Int32)) (by decide) ?_
      exact a_iret dX8_holderOf_30 rfl k
    · replace k := k.2 c3
      refine a_aload_n dX8_holderOf_20 rfl ?_
      refine a_getR dX8_holderOf_21 fF_RX8_9 rfl rfl ?_
      refine a_iload_n dX8_holderOf_24 rfl ?_
      obtain ⟨e4, k⟩ := k
      refine a_iald dX8_holderOf_25 rfl e4 ?_
      refine a_goto 30 dX8_holderOf_26 (by decide) ?_
      exact a_iret dX8_holderOf_30 rfl k
set_option maxRecDepth 100000 in
theorem w_X8_kindOfPlace_0 {G : dh_G} {x1 : Int32} {h : dh_H} {Q : Option Value → dh_H → Prop} (k : dh_C G mX8_holderOf [.ref 19, .int (x1)] h (fun v h1 => dh_J G mX8_kindOfPlace 5 [some (.ref 19), some (.int (x1))] (v.toList ++ []) h1 Q)) : dh_J G mX8_kindOfPlace 0 [some (.ref 19), some (.int (x1))] [] h Q := by
  refine a_aload_n dX8_kindOfPlace_0 rfl ?_
  refine a_iload_n dX8_kindOfPlace_1 rfl ?_
  exact a_callV1 dX8_kindOfPlace_2 (dh_Y_up cY_RX8_47 (by decide)) rfl rfl (Nat.le_of_ble_eq_true rfl) k
theorem e_X8_kindOfPlace {G : dh_G} {x1 : Int32} {h : dh_H} {Q : Option Value → dh_H → Prop} (k : dh_C G mX8_holderOf [.ref 19, .int (x1)] h (fun v h1 => dh_J G mX8_kindOfPlace 5 [some (.ref 19), some (.int (x1))] (v.toList ++ []) h1 Q)) : dh_C G mX8_kindOfPlace [.ref 19, .int (x1)] h Q := dh_C_of [some (.ref 19), some (.int (x1))] (by decide) (Nat.le_of_ble_eq_true rfl) rfl (w_X8_kindOfPlace_0 k)
set_option maxRecDepth 100000 in
theorem w_X8_kindOfPlace_5 {G : dh_G} {x1 s0 : Int32} {h : dh_H} {Q : Option Value → dh_H → Prop} (k : ((s0 = (-1 : Int32)) → dh_C G mX5_hasDummy [.ref 3, .int (x1)] h (fun v h1 => dh_J G mX8_kindOfPlace 19 [some (.ref 19), some (.int (x1))] (v.toList ++ []) h1 Q)) ∧ ((¬ s0 = (-1 : Int32)) → Q (some (.int (nI 2))) h)) : dh_J G mX8_kindOfPlace 5 [some (.ref 19), some (.int (x1))] [.int (s0)] h Q := by
  refine a_iconst dX8_kindOfPlace_5 (v := (-1 : Int32)) (by decide) ?_
  refine a_icmp_eq 11 dX8_kindOfPlace_6 (by decide) (fun c1 => ?_) (fun c1 => ?_)
  · replace k := k.1 c1
    refine a_aload_n dX8_kindOfPlace_11 rfl ?_
    refine a_getR dX8_kindOfPlace_12 fF_RX8_27 rfl rfl ?_
    refine a_iload_n dX8_kindOfPlace_15 rfl ?_
    exact a_callV1 dX8_kindOfPlace_16 (dh_Y_up cY_RX8_41 (by decide)) rfl rfl (Nat.le_of_ble_eq_true rfl) k
  · replace k := k.2 c1
    refine a_iconst dX8_kindOfPlace_9 (v := nI 2) (by decide) ?_
    exact a_iret dX8_kindOfPlace_10 rfl k
set_option maxRecDepth 100000 in
theorem w_X8_kindOfPlace_19 {G : dh_G} {x1 s0 : Int32} {h : dh_H} {Q : Option Value → dh_H → Prop} (k : ((s0 = 0) → Q (some (.int (nI 0))) h) ∧ ((¬ s0 = 0) → (vp_in x1 6) ∧ ((¬ (h 20 x1.toNatClampNeg) = (-2 : Int32)) → Q (some (.int (nI 0))) h) ∧ (((h 20 x1.toNatClampNeg) = (-2 : Int32)) → Q (some (.int (nI 1))) h))) : dh_J G mX8_kindOfPlace 19 [some (.ref 19), some (.int (x1))] [.int (s0)] h Q := by
  refine a_if_eq 37 dX8_kindOfPlace_19 (by decide) (fun c1 => ?_) (fun c1 => ?_)
  · replace k := k.1 c1
    refine a_iconst dX8_kindOfPlace_37 (v := nI 0) (by decide) ?_
    exact a_iret dX8_kindOfPlace_38 rfl k
  · replace k := k.2 c1
    refine a_aload_n dX8_kindOfPlace_22 rfl ?_
    refine a_getR dX8_kindOfPlace_23 fF_RX8_9 rfl rfl ?_
    refine a_iload_n dX8_kindOfPlace_26 rfl ?_
    obtain ⟨e2, k⟩ := k
    refine a_iald dX8_kindOfPlace_27 rfl e2 ?_
    refine a_bipush dX8_kindOfPlace_28 (v := (-2 : Int32)) (by decide) ?_
    refine a_icmp_ne 37 dX8_kindOfPlace_30 (by decide) (fun c3 => ?_) (fun c3 => ?_)
    · replace k := k.1 c3
      refine a_iconst dX8_kindOfPlace_37 (v := nI 0) (by decide) ?_
      exact a_iret dX8_kindOfPlace_38 rfl k
    · replace k := k.2 c3
      refine a_iconst dX8_kindOfPlace_33 (v := nI 1) (by decide) ?_
      refine a_goto 38 dX8_kindOfPlace_34 (by decide) ?_
      exact a_iret dX8_kindOfPlace_38 rfl k
set_option maxRecDepth 100000 in
theorem w_X8_dummyOf_0 {G : dh_G} {x1 : Int32} {h : dh_H} {Q : Option Value → dh_H → Prop} (k : dh_J G mX8_dummyOf 2 [some (.ref 19), some (.int (x1)), some (.int (nI 0))] [] h Q) : dh_J G mX8_dummyOf 0 [some (.ref 19), some (.int (x1)), none] [] h Q := by
  refine a_iconst dX8_dummyOf_0 (v := nI 0) (by decide) ?_
  refine a_istore_n dX8_dummyOf_1 (by decide) rfl ?_
  exact k
theorem e_X8_dummyOf {G : dh_G} {x1 : Int32} {h : dh_H} {Q : Option Value → dh_H → Prop} (k : dh_J G mX8_dummyOf 2 [some (.ref 19), some (.int (x1)), some (.int (nI 0))] [] h Q) : dh_C G mX8_dummyOf [.ref 19, .int (x1)] h Q := dh_C_of [some (.ref 19), some (.int (x1)), none] (by decide) (Nat.le_of_ble_eq_true rfl) rfl (w_X8_dummyOf_0 k)
set_option maxRecDepth 100000 in
theorem w_X8_dummyOf_2 {G : dh_G} {x1 x2 : Int32} {h : dh_H} {Q : Option Value → dh_H → Prop} (k : (((h 3 4) ≤ x2) → Q (some (.int ((-1 : Int32)))) h) ∧ ((¬ (h 3 4) ≤ x2) → (vp_in x2 6) ∧ ((¬ (h 20 x2.toNatClampNeg) = x1) → dh_J G mX8_dummyOf 2 [some (.ref 19), some (.int (x1)), some (.int (x2 + (nI 1)))] [] h Q) ∧ (((h 20 x2.toNatClampNeg) = x1) → Q (some (.int (x2))) h))) : dh_J G mX8_dummyOf 2 [some (.ref 19), some (.int (x1)), some (.int (x2))] [] h Q := by
  refine a_iload_n dX8_dummyOf_2 rfl ?_
  refine a_aload_n dX8_dummyOf_3 rfl ?_
  refine a_getR dX8_dummyOf_4 fF_RX8_27 rfl rfl ?_
  refine a_getI dX8_dummyOf_7 fF_RX8_51 rfl rfl ?_
  refine a_icmp_ge 31 dX8_dummyOf_10 (by decide) (fun c1 => ?_) (fun c1 => ?_)
  · replace k := k.1 c1
    refine a_iconst dX8_dummyOf_31 (v := (-1 : Int32)) (by decide) ?_
    exact a_iret dX8_dummyOf_32 rfl k
  · replace k := k.2 c1
    refine a_aload_n dX8_dummyOf_13 rfl ?_
    refine a_getR dX8_dummyOf_14 fF_RX8_9 rfl rfl ?_
    refine a_iload_n dX8_dummyOf_17 rfl ?_
    obtain ⟨e2, k⟩ := k
    refine a_iald dX8_dummyOf_18 rfl e2 ?_
    refine a_iload_n dX8_dummyOf_19 rfl ?_
    refine a_icmp_ne 25 dX8_dummyOf_20 (by decide) (fun c3 => ?_) (fun c3 => ?_)
    · replace k := k.1 c3
      refine a_iinc dX8_dummyOf_25 (v := x2 + (nI 1)) rfl (by rfl) (by decide) rfl ?_
      refine a_goto 2 dX8_dummyOf_28 (by decide) ?_
      exact k
    · replace k := k.2 c3
      refine a_iload_n dX8_dummyOf_23 rfl ?_
      exact a_iret dX8_dummyOf_24 rfl k
set_option maxRecDepth 100000 in
theorem w_X8_setAt_0 {G : dh_G} {x1 : Int32} {h : dh_H} {Q : Option Value → dh_H → Prop} (k : dh_J G mX8_setAt 4 [some (.ref 19), some (.int (x1)), some (.int (nI 0)), some (.int (nI 0))] [] h Q) : dh_J G mX8_setAt 0 [some (.ref 19), some (.int (x1)), none, none] [] h Q := by
  refine a_iconst dX8_setAt_0 (v := nI 0) (by decide) ?_
  refine a_istore_n dX8_setAt_1 (by decide) rfl ?_
  refine a_iconst dX8_setAt_2 (v := nI 0) (by decide) ?_
  refine a_istore_n dX8_setAt_3 (by decide) rfl ?_
  exact k
theorem e_X8_setAt {G : dh_G} {x1 : Int32} {h : dh_H} {Q : Option Value → dh_H → Prop} (k : dh_J G mX8_setAt 4 [some (.ref 19), some (.int (x1)), some (.int (nI 0)), some (.int (nI 0))] [] h Q) : dh_C G mX8_setAt [.ref 19, .int (x1)] h Q := dh_C_of [some (.ref 19), some (.int (x1)), none, none] (by decide) (Nat.le_of_ble_eq_true rfl) rfl (w_X8_setAt_0 k)
set_option maxRecDepth 100000 in
theorem w_X8_setAt_4 {G : dh_G} {x1 x2 x3 : Int32} {h : dh_H} {Q : Option Value → dh_H → Prop} (k : (((h 3 4) ≤ x3) → Q (some (.int (x2))) h) ∧ ((¬ (h 3 4) ≤ x3) → (vp_in x3 6) ∧ ((¬ (h 20 x3.toNatClampNeg) = x1) → dh_J G mX8_setAt 4 [some (.ref 19), some (.int (x1)), some (.int (x2)), some (.int (x3 + (nI 1)))] [] h Q) ∧ (((h 20 x3.toNatClampNeg) = x1) → dh_J G mX8_setAt 4 [some (.ref 19), some (.int (x1)), some (.int (x2 ||| ((nI 1) <<< (x3 &&& 31)))), some (.int (x3 + (nI 1)))] [] h Q))) : dh_J G mX8_setAt 4 [some (.ref 19), some (.int (x1)), some (.int (x2)), some (.int (x3))] [] h Q := by
  refine a_iload_n dX8_setAt_4 rfl ?_
  refine a_aload_n dX8_setAt_5 rfl ?_
  refine a_getR dX8_setAt_6 fF_RX8_27 rfl rfl ?_
  refine a_getI dX8_setAt_9 fF_RX8_51 rfl rfl ?_
  refine a_icmp_ge 37 dX8_setAt_12 (by decide) (fun c1 => ?_) (fun c1 => ?_)
  · replace k := k.1 c1
    refine a_iload_n dX8_setAt_37 rfl ?_
    exact a_iret dX8_setAt_38 rfl k
  · replace k := k.2 c1
    refine a_aload_n dX8_setAt_15 rfl ?_
    refine a_getR dX8_setAt_16 fF_RX8_9 rfl rfl ?_
    refine a_iload_n dX8_setAt_19 rfl ?_
    obtain ⟨e2, k⟩ := k
    refine a_iald dX8_setAt_20 rfl e2 ?_
    refine a_iload_n dX8_setAt_21 rfl ?_
    refine a_icmp_ne 31 dX8_setAt_22 (by decide) (fun c3 => ?_) (fun c3 => ?_)
    · replace k := k.1 c3
      refine a_iinc dX8_setAt_31 (v := x3 + (nI 1)) rfl (by rfl) (by decide) rfl ?_
      refine a_goto 4 dX8_setAt_34 (by decide) ?_
      exact k
    · replace k := k.2 c3
      refine a_iload_n dX8_setAt_25 rfl ?_
      refine a_iconst dX8_setAt_26 (v := nI 1) (by decide) ?_
      refine a_iload_n dX8_setAt_27 rfl ?_
      refine a_ishl dX8_setAt_28 ?_
      refine a_ior dX8_setAt_29 ?_
      refine a_istore_n dX8_setAt_30 (by decide) rfl ?_
      refine a_iinc dX8_setAt_31 (v := x3 + (nI 1)) rfl (by rfl) (by decide) rfl ?_
      refine a_goto 4 dX8_setAt_34 (by decide) ?_
      exact k
set_option maxRecDepth 100000 in
theorem w_X8_readableSet_0 {G : dh_G} {h : dh_H} {Q : Option Value → dh_H → Prop} (k : dh_J G mX8_readableSet 4 [some (.ref 19), some (.int (nI 0)), some (.int (nI 0))] [] h Q) : dh_J G mX8_readableSet 0 [some (.ref 19), none, none] [] h Q := by
  refine a_iconst dX8_readableSet_0 (v := nI 0) (by decide) ?_
  refine a_istore_n dX8_readableSet_1 (by decide) rfl ?_
  refine a_iconst dX8_readableSet_2 (v := nI 0) (by decide) ?_
  refine a_istore_n dX8_readableSet_3 (by decide) rfl ?_
  exact k
theorem e_X8_readableSet {G : dh_G} {h : dh_H} {Q : Option Value → dh_H → Prop} (k : dh_J G mX8_readableSet 4 [some (.ref 19), some (.int (nI 0)), some (.int (nI 0))] [] h Q) : dh_C G mX8_readableSet [.ref 19] h Q := dh_C_of [some (.ref 19), none, none] (by decide) (Nat.le_of_ble_eq_true rfl) rfl (w_X8_readableSet_0 k)
set_option maxRecDepth 100000 in
theorem w_X8_readableSet_4 {G : dh_G} {x1 x2 : Int32} {h : dh_H} {Q : Option Value → dh_H → Prop} (k : (((h 3 4) ≤ x2) → Q (some (.int (x1))) h) ∧ ((¬ (h 3 4) ≤ x2) → (vp_in x2 6) ∧ (vp_in x2 6) ∧ (((h 9 x2.toNatClampNeg) ≤ (h 21 x2.toNatClampNeg)) → dh_J G mX8_readableSet 4 [some (.ref 19), some (.int (x1)), some (.int (x2 + (nI 1)))] [] h Q) ∧ ((¬ (h 9 x2.toNatClampNeg) ≤ (h 21 x2.toNatClampNeg)) → dh_J G mX8_readableSet 4 [some (.ref 19), some (.int (x1 ||| ((nI 1) <<< (x2 &&& 31)))), some (.int (x2 + (nI 1)))] [] h Q))) : dh_J G mX8_readableSet 4 [some (.ref 19), some (.int (x1)), some (.int (x2))] [] h Q := by
  refine a_iload_n dX8_readableSet_4 rfl ?_
  refine a_aload_n dX8_readableSet_5 rfl ?_
  refine a_getR dX8_readableSet_6 fF_RX8_27 rfl rfl ?_
  refine a_getI dX8_readableSet_9 fF_RX8_51 rfl rfl ?_
  refine a_icmp_ge 45 dX8_readableSet_12 (by decide) (fun c1 => ?_) (fun c1 => ?_)
  · replace k := k.1 c1
    refine a_iload_n dX8_readableSet_45 rfl ?_
    exact a_iret dX8_readableSet_46 rfl k
  · replace k := k.2 c1
    refine a_aload_n dX8_readableSet_15 rfl ?_
    refine a_getR dX8_readableSet_16 fF_RX8_15 rfl rfl ?_
    refine a_iload_n dX8_readableSet_19 rfl ?_
    obtain ⟨e2, k⟩ := k
    refine a_iald dX8_readableSet_20 rfl e2 ?_
    refine a_aload_n dX8_readableSet_21 rfl ?_
    refine a_getR dX8_readableSet_22 fF_RX8_27 rfl rfl ?_
    refine a_getR dX8_readableSet_25 fF_RX8_54 rfl rfl ?_
    refine a_iload_n dX8_readableSet_28 rfl ?_
    obtain ⟨e3, k⟩ := k
    refine a_iald dX8_readableSet_29 rfl e3 ?_
    refine a_icmp_ge 39 dX8_readableSet_30 (by decide) (fun c4 => ?_) (fun c4 => ?_)
    · replace k := k.1 c4
      refine a_iinc dX8_readableSet_39 (v := x2 + (nI 1)) rfl (by rfl) (by decide) rfl ?_
      refine a_goto 4 dX8_readableSet_42 (by decide) ?_
      exact k
    · replace k := k.2 c4
      refine a_iload_n dX8_readableSet_33 rfl ?_
      refine a_iconst dX8_readableSet_34 (v := nI 1) (by decide) ?_
      refine a_iload_n dX8_readableSet_35 rfl ?_
      refine a_ishl dX8_readableSet_36 ?_
      refine a_ior dX8_readableSet_37 ?_
      refine a_istore_n dX8_readableSet_38 (by decide) rfl ?_
      refine a_iinc dX8_readableSet_39 (v := x2 + (nI 1)) rfl (by rfl) (by decide) rfl ?_
      refine a_goto 4 dX8_readableSet_42 (by decide) ?_
      exact k
set_option maxRecDepth 100000 in
theorem w_X8_calmSet_0 {G : dh_G} {h : dh_H} {Q : Option Value → dh_H → Prop} (k : dh_J G mX8_calmSet 4 [some (.ref 19), some (.int (nI 0)), some (.int (nI 0))] [] h Q) : dh_J G mX8_calmSet 0 [some (.ref 19), none, none] [] h Q := by
  refine a_iconst dX8_calmSet_0 (v := nI 0) (by decide) ?_
  refine a_istore_n dX8_calmSet_1 (by decide) rfl ?_
  refine a_iconst dX8_calmSet_2 (v := nI 0) (by decide) ?_
  refine a_istore_n dX8_calmSet_3 (by decide) rfl ?_
  exact k
theorem e_X8_calmSet {G : dh_G} {h : dh_H} {Q : Option Value → dh_H → Prop} (k : dh_J G mX8_calmSet 4 [some (.ref 19), some (.int (nI 0)), some (.int (nI 0))] [] h Q) : dh_C G mX8_calmSet [.ref 19] h Q := dh_C_of [some (.ref 19), none, none] (by decide) (Nat.le_of_ble_eq_true rfl) rfl (w_X8_calmSet_0 k)
set_option maxRecDepth 100000 in
theorem w_X8_calmSet_4 {G : dh_G} {x1 x2 : Int32} {h : dh_H} {Q : Option Value → dh_H → Prop} (k : (((h 3 3) ≤ x2) → Q (some (.int (x1))) h) ∧ ((¬ (h 3 3) ≤ x2) → dh_C G mX8_dummyOf [.ref 19, .int (x2)] h (fun v h1 => dh_J G mX8_calmSet 25 [some (.ref 19), some (.int (x1)), some (.int (x2))] (v.toList ++ [.int (x2), .ref 3]) h1 Q))) : dh_J G mX8_calmSet 4 [some (.ref 19), some (.int (x1)), some (.int (x2))] [] h Q := by
  refine a_iload_n dX8_calmSet_4 rfl ?_
  refine a_aload_n dX8_calmSet_5 rfl ?_
  refine a_getR dX8_calmSet_6 fF_RX8_27 rfl rfl ?_
  refine a_getI dX8_calmSet_9 fF_RX8_57 rfl rfl ?_
  refine a_icmp_ge 43 dX8_calmSet_12 (by decide) (fun c1 => ?_) (fun c1 => ?_)
  · replace k := k.1 c1
    refine a_iload_n dX8_calmSet_43 rfl ?_
    exact a_iret dX8_calmSet_44 rfl k
  · replace k := k.2 c1
    refine a_aload_n dX8_calmSet_15 rfl ?_
    refine a_getR dX8_calmSet_16 fF_RX8_27 rfl rfl ?_
    refine a_iload_n dX8_calmSet_19 rfl ?_
    refine a_aload_n dX8_calmSet_20 rfl ?_
    refine a_iload_n dX8_calmSet_21 rfl ?_
    exact a_callV1 dX8_calmSet_22 (dh_Y_up cY_RX8_60 (by decide)) rfl rfl (Nat.le_of_ble_eq_true rfl) k
set_option maxRecDepth 100000 in
theorem w_X8_calmSet_25 {G : dh_G} {x1 x2 s1 s2 : Int32} {h : dh_H} {Q : Option Value → dh_H → Prop} (k : dh_C G mX5_takes [.ref 3, .int (s1), .int (s2)] h (fun v h1 => dh_J G mX8_calmSet 28 [some (.ref 19), some (.int (x1)), some (.int (x2))] (v.toList ++ []) h1 Q)) : dh_J G mX8_calmSet 25 [some (.ref 19), some (.int (x1)), some (.int (x2))] [.int (s2), .int (s1), .ref 3] h Q := by
  exact a_callV2 dX8_calmSet_25 (dh_Y_up cY_RX8_63 (by decide)) rfl rfl (Nat.le_of_ble_eq_true rfl) k
set_option maxRecDepth 100000 in
theorem w_X8_calmSet_28 {G : dh_G} {x1 x2 s0 : Int32} {h : dh_H} {Q : Option Value → dh_H → Prop} (k : ((s0 = 0) → dh_J G mX8_calmSet 4 [some (.ref 19), some (.int (x1)), some (.int (x2 + (nI 1)))] [] h Q) ∧ ((¬ s0 = 0) → dh_J G mX8_calmSet 4 [some (.ref 19), some (.int (x1 ||| ((nI 1) <<< (x2 &&& 31)))), some (.int (x2 + (nI 1)))] [] h Q)) : dh_J G mX8_calmSet 28 [some (.ref 19), some (.int (x1)), some (.int (x2))] [.int (s0)] h Q := by
  refine a_if_eq 37 dX8_calmSet_28 (by decide) (fun c1 => ?_) (fun c1 => ?_)
  · replace k := k.1 c1
    refine a_iinc dX8_calmSet_37 (v := x2 + (nI 1)) rfl (by rfl) (by decide) rfl ?_
    refine a_goto 4 dX8_calmSet_40 (by decide) ?_
    exact k
  · replace k := k.2 c1
    refine a_iload_n dX8_calmSet_31 rfl ?_
    refine a_iconst dX8_calmSet_32 (v := nI 1) (by decide) ?_
    refine a_iload_n dX8_calmSet_33 rfl ?_
    refine a_ishl dX8_calmSet_34 ?_
    refine a_ior dX8_calmSet_35 ?_
    refine a_istore_n dX8_calmSet_36 (by decide) rfl ?_
    refine a_iinc dX8_calmSet_37 (v := x2 + (nI 1)) rfl (by rfl) (by decide) rfl ?_
    refine a_goto 4 dX8_calmSet_40 (by decide) ?_
    exact k
set_option maxRecDepth 100000 in
theorem w_X8_sickSet_0 {G : dh_G} {h : dh_H} {Q : Option Value → dh_H → Prop} (k : dh_J G mX8_sickSet 4 [some (.ref 19), some (.int (nI 0)), some (.int (nI 0))] [] h Q) : dh_J G mX8_sickSet 0 [some (.ref 19), none, none] [] h Q := by
  refine a_iconst dX8_sickSet_0 (v := nI 0) (by decide) ?_
  refine a_istore_n dX8_sickSet_1 (by decide) rfl ?_
  refine a_iconst dX8_sickSet_2 (v := nI 0) (by decide) ?_
  refine a_istore_n dX8_sickSet_3 (by decide) rfl ?_
  exact k
theorem e_X8_sickSet {G : dh_G} {h : dh_H} {Q : Option Value → dh_H → Prop} (k : dh_J G mX8_sickSet 4 [some (.ref 19), some (.int (nI 0)), some (.int (nI 0))] [] h Q) : dh_C G mX8_sickSet [.ref 19] h Q := dh_C_of [some (.ref 19), none, none] (by decide) (Nat.le_of_ble_eq_true rfl) rfl (w_X8_sickSet_0 k)
set_option maxRecDepth 100000 in
theorem w_X8_sickSet_4 {G : dh_G} {x1 x2 : Int32} {h : dh_H} {Q : Option Value → dh_H → Prop} (k : (((h 3 3) ≤ x2) → Q (some (.int (x1))) h) ∧ ((¬ (h 3 3) ≤ x2) → (vp_in x2 6) ∧ (((h 23 x2.toNatClampNeg) ≤ 0) → dh_J G mX8_sickSet 4 [some (.ref 19), some (.int (x1)), some (.int (x2 + (nI 1)))] [] h Q) ∧ ((¬ (h 23 x2.toNatClampNeg) ≤ 0) → dh_J G mX8_sickSet 4 [some (.ref 19), some (.int (x1 ||| ((nI 1) <<< (x2 &&& 31)))), some (.int (x2 + (nI 1)))] [] h Q))) : dh_J G mX8_sickSet 4 [some (.ref 19), some (.int (x1)), some (.int (x2))] [] h Q := by
  refine a_iload_n dX8_sickSet_4 rfl ?_
  refine a_aload_n dX8_sickSet_5 rfl ?_
  refine a_getR dX8_sickSet_6 fF_RX8_27 rfl rfl ?_
  refine a_getI dX8_sickSet_9 fF_RX8_57 rfl rfl ?_
  refine a_icmp_ge 36 dX8_sickSet_12 (by decide) (fun c1 => ?_) (fun c1 => ?_)
  · replace k := k.1 c1
    refine a_iload_n dX8_sickSet_36 rfl ?_
    exact a_iret dX8_sickSet_37 rfl k
  · replace k := k.2 c1
    refine a_aload_n dX8_sickSet_15 rfl ?_
    refine a_getR dX8_sickSet_16 fF_RX8_21 rfl rfl ?_
    refine a_iload_n dX8_sickSet_19 rfl ?_
    obtain ⟨e2, k⟩ := k
    refine a_iald dX8_sickSet_20 rfl e2 ?_
    refine a_if_le 30 dX8_sickSet_21 (by decide) (fun c3 => ?_) (fun c3 => ?_)
    · replace k := k.1 c3
      refine a_iinc dX8_sickSet_30 (v := x2 + (nI 1)) rfl (by rfl) (by decide) rfl ?_
      refine a_goto 4 dX8_sickSet_33 (by decide) ?_
      exact k
    · replace k := k.2 c3
      refine a_iload_n dX8_sickSet_24 rfl ?_
      refine a_iconst dX8_sickSet_25 (v := nI 1) (by decide) ?_
      refine a_iload_n dX8_sickSet_26 rfl ?_
      refine a_ishl dX8_sickSet_27 ?_
      refine a_ior dX8_sickSet_28 ?_
      refine a_istore_n dX8_sickSet_29 (by decide) rfl ?_
      refine a_iinc dX8_sickSet_30 (v := x2 + (nI 1)) rfl (by rfl) (by decide) rfl ?_
      refine a_goto 4 dX8_sickSet_33 (by decide) ?_
      exact k
set_option maxRecDepth 100000 in
theorem w_X8_infects_0 {G : dh_G} {x1 x2 : Int32} {h : dh_H} {Q : Option Value → dh_H → Prop} (k : dh_C G mX8_sickSet [.ref 19] h (fun v h1 => dh_J G mX8_infects 4 [some (.ref 19), some (.int (x1)), some (.int (x2)), none] (v.toList ++ []) h1 Q)) : dh_J G mX8_infects 0 [some (.ref 19), some (.int (x1)), some (.int (x2)), none] [] h Q := by
  refine a_aload_n dX8_infects_0 rfl ?_
  exact a_callV0 dX8_infects_1 (dh_Y_up cY_RX8_67 (by decide)) rfl rfl (Nat.le_of_ble_eq_true rfl) k
theorem e_X8_infects {G : dh_G} {x1 x2 : Int32} {h : dh_H} {Q : Option Value → dh_H → Prop} (k : dh_C G mX8_sickSet [.ref 19] h (fun v h1 => dh_J G mX8_infects 4 [some (.ref 19), some (.int (x1)), some (.int (x2)), none] (v.toList ++ []) h1 Q)) : dh_C G mX8_infects [.ref 19, .int (x1), .int (x2)] h Q := dh_C_of [some (.ref 19), some (.int (x1)), some (.int (x2)), none] (by decide) (Nat.le_of_ble_eq_true rfl) rfl (w_X8_infects_0 k)
set_option maxRecDepth 100000 in
theorem w_X8_infects_4 {G : dh_G} {x1 x2 s0 : Int32} {h : dh_H} {Q : Option Value → dh_H → Prop} (k : dh_C G mX9_isIn [.int (s0), .int (x2)] h (fun v h1 => dh_J G mX8_infects 10 [some (.ref 19), some (.int (x1)), none, some (.int (s0))] (v.toList ++ []) h1 Q)) : dh_J G mX8_infects 4 [some (.ref 19), some (.int (x1)), some (.int (x2)), none] [.int (s0)] h Q := by
  refine a_istore_n dX8_infects_4 (by decide) rfl ?_
  refine a_iload_n dX8_infects_5 rfl ?_
  refine a_iload_n dX8_infects_6 rfl ?_
  refine dh_drop 2 ?_
  exact a_callS2 dX8_infects_7 (dh_Y_up cY_RX8_71 (by decide)) (Nat.le_of_ble_eq_true rfl) k
set_option maxRecDepth 100000 in
theorem w_X8_infects_10 {G : dh_G} {x1 x3 s0 : Int32} {h : dh_H} {Q : Option Value → dh_H → Prop} (k : ((¬ s0 = 0) → Q (some (.int (nI 0))) h) ∧ ((s0 = 0) → dh_C G mX5_hasDummy [.ref 3, .int (x1)] h (fun v h1 => dh_J G mX8_infects 21 [some (.ref 19), some (.int (x1)), none, some (.int (x3))] (v.toList ++ []) h1 Q))) : dh_J G mX8_infects 10 [some (.ref 19), some (.int (x1)), none, some (.int (x3))] [.int (s0)] h Q := by
  refine a_if_ne 39 dX8_infects_10 (by decide) (fun c1 => ?_) (fun c1 => ?_)
  · replace k := k.1 c1
    refine a_iconst dX8_infects_39 (v := nI 0) (by decide) ?_
    exact a_zret dX8_infects_40 rfl (by decide) k
  · replace k := k.2 c1
    refine a_aload_n dX8_infects_13 rfl ?_
    refine a_getR dX8_infects_14 fF_RX8_27 rfl rfl ?_
    refine a_iload_n dX8_infects_17 rfl ?_
    exact a_callV1 dX8_infects_18 (dh_Y_up cY_RX8_41 (by decide)) rfl rfl (Nat.le_of_ble_eq_true rfl) k
set_option maxRecDepth 100000 in
theorem w_X8_infects_21 {G : dh_G} {x1 x3 s0 : Int32} {h : dh_H} {Q : Option Value → dh_H → Prop} (k : ((s0 = 0) → Q (some (.int (nI 0))) h) ∧ ((¬ s0 = 0) → (vp_in x1 6) ∧ ((((h 22 x1.toNatClampNeg) &&& x3) = 0) → Q (some (.int (nI 0))) h) ∧ ((¬ ((h 22 x1.toNatClampNeg) &&& x3) = 0) → Q (some (.int (nI 1))) h))) : dh_J G mX8_infects 21 [some (.ref 19), some (.int (x1)), none, some (.int (x3))] [.int (s0)] h Q := by
  refine a_if_eq 39 dX8_infects_21 (by decide) (fun c1 => ?_) (fun c1 => ?_)
  · replace k := k.1 c1
    refine a_iconst dX8_infects_39 (v := nI 0) (by decide) ?_
    exact a_zret dX8_infects_40 rfl (by decide) k
  · replace k := k.2 c1
    refine a_aload_n dX8_infects_24 rfl ?_
    refine a_getR dX8_infects_25 fF_RX8_18 rfl rfl ?_
    refine a_iload_n dX8_infects_28 rfl ?_
    obtain ⟨e2, k⟩ := k
    refine a_iald dX8_infects_29 rfl e2 ?_
    refine a_iload_n dX8_infects_30 rfl ?_
    refine a_iand dX8_infects_31 ?_
    refine a_if_eq 39 dX8_infects_32 (by decide) (fun c3 => ?_) (fun c3 => ?_)
    · replace k := k.1 c3
      refine a_iconst dX8_infects_39 (v := nI 0) (by decide) ?_
      exact a_zret dX8_infects_40 rfl (by decide) k
    · replace k := k.2 c3
      refine a_iconst dX8_infects_35 (v := nI 1) (by decide) ?_
      refine a_goto 40 dX8_infects_36 (by decide) ?_
      exact a_zret dX8_infects_40 rfl (by decide) k
set_option maxRecDepth 100000 in
theorem w_X8_canHand_0 {G : dh_G} {x1 x2 : Int32} {h : dh_H} {Q : Option Value → dh_H → Prop} (k : dh_C G mX5_hasDummy [.ref 3, .int (x1)] h (fun v h1 => dh_J G mX8_canHand 8 [some (.ref 19), some (.int (x1)), some (.int (x2))] (v.toList ++ []) h1 Q)) : dh_J G mX8_canHand 0 [some (.ref 19), some (.int (x1)), some (.int (x2))] [] h Q := by
  refine a_aload_n dX8_canHand_0 rfl ?_
  refine a_getR dX8_canHand_1 fF_RX8_27 rfl rfl ?_
  refine a_iload_n dX8_canHand_4 rfl ?_
  exact a_callV1 dX8_canHand_5 (dh_Y_up cY_RX8_41 (by decide)) rfl rfl (Nat.le_of_ble_eq_true rfl) k
theorem e_X8_canHand {G : dh_G} {x1 x2 : Int32} {h : dh_H} {Q : Option Value → dh_H → Prop} (k : dh_C G mX5_hasDummy [.ref 3, .int (x1)] h (fun v h1 => dh_J G mX8_canHand 8 [some (.ref 19), some (.int (x1)), some (.int (x2))] (v.toList ++ []) h1 Q)) : dh_C G mX8_canHand [.ref 19, .int (x1), .int (x2)] h Q := dh_C_of [some (.ref 19), some (.int (x1)), some (.int (x2))] (by decide) (Nat.le_of_ble_eq_true rfl) rfl (w_X8_canHand_0 k)
set_option maxRecDepth 100000 in
theorem w_X8_canHand_8 {G : dh_G} {x1 x2 s0 : Int32} {h : dh_H} {Q : Option Value → dh_H → Prop} (k : ((s0 = 0) → Q (some (.int (nI 0))) h) ∧ ((¬ s0 = 0) → dh_C G mX8_holderOf [.ref 19, .int (x1)] h (fun v h1 => dh_J G mX8_canHand 16 [some (.ref 19), none, some (.int (x2))] (v.toList ++ []) h1 Q))) : dh_J G mX8_canHand 8 [some (.ref 19), some (.int (x1)), some (.int (x2))] [.int (s0)] h Q := by
  refine a_if_eq 33 dX8_canHand_8 (by decide) (fun c1 => ?_) (fun c1 => ?_)
  · replace k := k.1 c1
    refine a_iconst dX8_canHand_33 (v := nI 0) (by decide) ?_
    exact a_zret dX8_canHand_34 rfl (by decide) k
  · replace k := k.2 c1
    refine a_aload_n dX8_canHand_11 rfl ?_
    refine a_iload_n dX8_canHand_12 rfl ?_
    refine dh_drop 1 ?_
    exact a_callV1 dX8_canHand_13 (dh_Y_up cY_RX8_47 (by decide)) rfl rfl (Nat.le_of_ble_eq_true rfl) k
set_option maxRecDepth 100000 in
theorem w_X8_canHand_16 {G : dh_G} {x2 s0 : Int32} {h : dh_H} {Q : Option Value → dh_H → Prop} (k : ((¬ s0 = (-1 : Int32)) → Q (some (.int (nI 0))) h) ∧ ((s0 = (-1 : Int32)) → dh_C G mX8_dummyOf [.ref 19, .int (x2)] h (fun v h1 => dh_J G mX8_canHand 25 [none, none, none] (v.toList ++ []) h1 Q))) : dh_J G mX8_canHand 16 [some (.ref 19), none, some (.int (x2))] [.int (s0)] h Q := by
  refine a_iconst dX8_canHand_16 (v := (-1 : Int32)) (by decide) ?_
  refine a_icmp_ne 33 dX8_canHand_17 (by decide) (fun c1 => ?_) (fun c1 => ?_)
  · replace k := k.1 c1
    refine a_iconst dX8_canHand_33 (v := nI 0) (by decide) ?_
    exact a_zret dX8_canHand_34 rfl (by decide) k
  · replace k := k.2 c1
    refine a_aload_n dX8_canHand_20 rfl ?_
    refine a_iload_n dX8_canHand_21 rfl ?_
    refine dh_drop 0 ?_
    refine dh_drop 2 ?_
    exact a_callV1 dX8_canHand_22 (dh_Y_up cY_RX8_60 (by decide)) rfl rfl (Nat.le_of_ble_eq_true rfl) k
set_option maxRecDepth 100000 in
theorem w_X8_canHand_25 {G : dh_G} {s0 : Int32} {h : dh_H} {Q : Option Value → dh_H → Prop} (k : ((¬ s0 = (-1 : Int32)) → Q (some (.int (nI 0))) h) ∧ ((s0 = (-1 : Int32)) → Q (some (.int (nI 1))) h)) : dh_J G mX8_canHand 25 [none, none, none] [.int (s0)] h Q := by
  refine a_iconst dX8_canHand_25 (v := (-1 : Int32)) (by decide) ?_
  refine a_icmp_ne 33 dX8_canHand_26 (by decide) (fun c1 => ?_) (fun c1 => ?_)
  · replace k := k.1 c1
    refine a_iconst dX8_canHand_33 (v := nI 0) (by decide) ?_
    exact a_zret dX8_canHand_34 rfl (by decide) k
  · replace k := k.2 c1
    refine a_iconst dX8_canHand_29 (v := nI 1) (by decide) ?_
    refine a_goto 34 dX8_canHand_30 (by decide) ?_
    exact a_zret dX8_canHand_34 rfl (by decide) k
set_option maxRecDepth 100000 in
theorem w_X8_hand_0 {G : dh_G} {x1 x2 : Int32} {h : dh_H} {Q : Option Value → dh_H → Prop} (k : dh_C G mX5_hasDummy [.ref 3, .int (x1)] h (fun v h1 => dh_J G mX8_hand 8 [some (.ref 19), some (.int (x1)), some (.int (x2))] (v.toList ++ []) h1 Q)) : dh_J G mX8_hand 0 [some (.ref 19), some (.int (x1)), some (.int (x2))] [] h Q := by
  refine a_aload_n dX8_hand_0 rfl ?_
  refine a_getR dX8_hand_1 fF_RX8_27 rfl rfl ?_
  refine a_iload_n dX8_hand_4 rfl ?_
  exact a_callV1 dX8_hand_5 (dh_Y_up cY_RX8_41 (by decide)) rfl rfl (Nat.le_of_ble_eq_true rfl) k
theorem e_X8_hand {G : dh_G} {x1 x2 : Int32} {h : dh_H} {Q : Option Value → dh_H → Prop} (k : dh_C G mX5_hasDummy [.ref 3, .int (x1)] h (fun v h1 => dh_J G mX8_hand 8 [some (.ref 19), some (.int (x1)), some (.int (x2))] (v.toList ++ []) h1 Q)) : dh_C G mX8_hand [.ref 19, .int (x1), .int (x2)] h Q := dh_C_of [some (.ref 19), some (.int (x1)), some (.int (x2))] (by decide) (Nat.le_of_ble_eq_true rfl) rfl (w_X8_hand_0 k)
set_option maxRecDepth 100000 in
theorem w_X8_hand_8 {G : dh_G} {x1 x2 s0 : Int32} {h : dh_H} {Q : Option Value → dh_H → Prop} (k : ((s0 = 0) → Q none h) ∧ ((¬ s0 = 0) → dh_C G mX5_hasChild [.ref 3, .int (x2)] h (fun v h1 => dh_J G mX8_hand 19 [some (.ref 19), some (.int (x1)), some (.int (x2))] (v.toList ++ []) h1 Q))) : dh_J G mX8_hand 8 [some (.ref 19), some (.int (x1)), some (.int (x2))] [.int (s0)] h Q := by
  refine a_if_eq 22 dX8_hand_8 (by decide) (fun c1 => ?_) (fun c1 => ?_)
  · replace k := k.1 c1
    exact a_vret dX8_hand_22 rfl k
  · replace k := k.2 c1
    refine a_aload_n dX8_hand_11 rfl ?_
    refine a_getR dX8_hand_12 fF_RX8_27 rfl rfl ?_
    refine a_iload_n dX8_hand_15 rfl ?_
    exact a_callV1 dX8_hand_16 (dh_Y_up cY_RX8_74 (by decide)) rfl rfl (Nat.le_of_ble_eq_true rfl) k
set_option maxRecDepth 100000 in
theorem w_X8_hand_19 {G : dh_G} {x1 x2 s0 : Int32} {h : dh_H} {Q : Option Value → dh_H → Prop} (k : ((¬ s0 = 0) → (vp_in x1 6) ∧ dh_C G mX5_takes [.ref 3, .int (x2), .int (x1)] (dh_s h 20 x1.toNatClampNeg x2) (fun v h1 => dh_J G mX8_hand 39 [some (.ref 19), some (.int (x1)), some (.int (x2))] (v.toList ++ []) h1 Q)) ∧ ((s0 = 0) → Q none h)) : dh_J G mX8_hand 19 [some (.ref 19), some (.int (x1)), some (.int (x2))] [.int (s0)] h Q := by
  refine a_if_ne 23 dX8_hand_19 (by decide) (fun c1 => ?_) (fun c1 => ?_)
  · replace k := k.1 c1
    refine a_aload_n dX8_hand_23 rfl ?_
    refine a_getR dX8_hand_24 fF_RX8_9 rfl rfl ?_
    refine a_iload_n dX8_hand_27 rfl ?_
    refine a_iload_n dX8_hand_28 rfl ?_
    obtain ⟨e2, k⟩ := k
    refine a_iast dX8_hand_29 rfl e2 ?_
    refine a_aload_n dX8_hand_30 rfl ?_
    refine a_getR dX8_hand_31 fF_RX8_27 rfl rfl ?_
    refine a_iload_n dX8_hand_34 rfl ?_
    refine a_iload_n dX8_hand_35 rfl ?_
    exact a_callV2 dX8_hand_36 (dh_Y_up cY_RX8_63 (by decide)) rfl rfl (Nat.le_of_ble_eq_true rfl) k
  · replace k := k.2 c1
    exact a_vret dX8_hand_22 rfl k
set_option maxRecDepth 100000 in
theorem w_X8_hand_39 {G : dh_G} {x1 x2 s0 : Int32} {h : dh_H} {Q : Option Value → dh_H → Prop} (k : ((¬ s0 = 0) → dh_C G mX8_infects [.ref 19, .int (x1), .int (x2)] h (fun v h1 => dh_J G mX8_hand 49 [some (.ref 19), some (.int (x1)), some (.int (x2))] (v.toList ++ []) h1 Q)) ∧ ((s0 = 0) → Q none h)) : dh_J G mX8_hand 39 [some (.ref 19), some (.int (x1)), some (.int (x2))] [.int (s0)] h Q := by
  refine a_if_ne 43 dX8_hand_39 (by decide) (fun c1 => ?_) (fun c1 => ?_)
  · replace k := k.1 c1
    refine a_aload_n dX8_hand_43 rfl ?_
    refine a_iload_n dX8_hand_44 rfl ?_
    refine a_iload_n dX8_hand_45 rfl ?_
    exact a_callV2 dX8_hand_46 (dh_Y_up cY_RX8_77 (by decide)) rfl rfl (Nat.le_of_ble_eq_true rfl) k
  · replace k := k.2 c1
    exact a_vret dX8_hand_42 rfl k
set_option maxRecDepth 100000 in
theorem w_X8_hand_49 {G : dh_G} {x1 x2 s0 : Int32} {h : dh_H} {Q : Option Value → dh_H → Prop} (k : ((s0 = 0) → (vp_in x1 6) ∧ (vp_in x1 6) ∧ Q none (dh_s h 22 x1.toNatClampNeg ((h 22 x1.toNatClampNeg) ||| ((nI 1) <<< (x2 &&& 31))))) ∧ ((¬ s0 = 0) → (vp_in x2 6) ∧ (vp_in x1 6) ∧ (vp_in x1 6) ∧ Q none (dh_s (dh_s h 23 x2.toNatClampNeg (h 3 1)) 22 x1.toNatClampNeg ((h 22 x1.toNatClampNeg) ||| ((nI 1) <<< (x2 &&& 31)))))) : dh_J G mX8_hand 49 [some (.ref 19), some (.int (x1)), some (.int (x2))] [.int (s0)] h Q := by
  refine a_if_eq 65 dX8_hand_49 (by decide) (fun c1 => ?_) (fun c1 => ?_)
  · replace k := k.1 c1
    refine a_aload_n dX8_hand_65 rfl ?_
    refine a_getR dX8_hand_66 fF_RX8_18 rfl rfl ?_
    refine a_iload_n dX8_hand_69 rfl ?_
    refine a_dup2 dX8_hand_70 rfl rfl ?_
    obtain ⟨e2, k⟩ := k
    refine a_iald dX8_hand_71 rfl e2 ?_
    refine a_iconst dX8_hand_72 (v := nI 1) (by decide) ?_
    refine a_iload_n dX8_hand_73 rfl ?_
    refine a_ishl dX8_hand_74 ?_
    refine a_ior dX8_hand_75 ?_
    obtain ⟨e3, k⟩ := k
    refine a_iast dX8_hand_76 rfl e3 ?_
    exact a_vret dX8_hand_77 rfl k
  · replace k := k.2 c1
    refine a_aload_n dX8_hand_52 rfl ?_
    refine a_getR dX8_hand_53 fF_RX8_21 rfl rfl ?_
    refine a_iload_n dX8_hand_56 rfl ?_
    refine a_aload_n dX8_hand_57 rfl ?_
    refine a_getR dX8_hand_58 fF_RX8_27 rfl rfl ?_
    refine a_getI dX8_hand_61 fF_RX8_80 rfl rfl ?_
    obtain ⟨e4, k⟩ := k
    refine a_iast dX8_hand_64 rfl e4 ?_
    refine a_aload_n dX8_hand_65 rfl ?_
    refine a_getR dX8_hand_66 fF_RX8_18 rfl rfl ?_
    refine a_iload_n dX8_hand_69 rfl ?_
    refine a_dup2 dX8_hand_70 rfl rfl ?_
    obtain ⟨e5, k⟩ := k
    refine a_iald dX8_hand_71 rfl e5 ?_
    refine a_iconst dX8_hand_72 (v := nI 1) (by decide) ?_
    refine a_iload_n dX8_hand_73 rfl ?_
    refine a_ishl dX8_hand_74 ?_
    refine a_ior dX8_hand_75 ?_
    obtain ⟨e6, k⟩ := k
    refine a_iast dX8_hand_76 rfl e6 ?_
    exact a_vret dX8_hand_77 rfl k
set_option maxRecDepth 100000 in
theorem w_X8_boilAll_0 {G : dh_G} {x1 : Int32} {h : dh_H} {Q : Option Value → dh_H → Prop} (k : dh_J G mX8_boilAll 2 [some (.ref 19), some (.int (x1)), some (.int (nI 0))] [] h Q) : dh_J G mX8_boilAll 0 [some (.ref 19), some (.int (x1)), none] [] h Q := by
  refine a_iconst dX8_boilAll_0 (v := nI 0) (by decide) ?_
  refine a_istore_n dX8_boilAll_1 (by decide) rfl ?_
  exact k
theorem e_X8_boilAll {G : dh_G} {x1 : Int32} {h : dh_H} {Q : Option Value → dh_H → Prop} (k : dh_J G mX8_boilAll 2 [some (.ref 19), some (.int (x1)), some (.int (nI 0))] [] h Q) : dh_C G mX8_boilAll [.ref 19, .int (x1)] h Q := dh_C_of [some (.ref 19), some (.int (x1)), none] (by decide) (Nat.le_of_ble_eq_true rfl) rfl (w_X8_boilAll_0 k)
set_option maxRecDepth 100000 in
theorem w_X8_boilAll_2 {G : dh_G} {x1 x2 : Int32} {h : dh_H} {Q : Option Value → dh_H → Prop} (k : (((h 3 4) ≤ x2) → Q none h) ∧ ((¬ (h 3 4) ≤ x2) → dh_C G mX9_isIn [.int (x1), .int (x2)] h (fun v h1 => dh_J G mX8_boilAll 18 [some (.ref 19), some (.int (x1)), some (.int (x2))] (v.toList ++ []) h1 Q))) : dh_J G mX8_boilAll 2 [some (.ref 19), some (.int (x1)), some (.int (x2))] [] h Q := by
  refine a_iload_n dX8_boilAll_2 rfl ?_
  refine a_aload_n dX8_boilAll_3 rfl ?_
  refine a_getR dX8_boilAll_4 fF_RX8_27 rfl rfl ?_
  refine a_getI dX8_boilAll_7 fF_RX8_51 rfl rfl ?_
  refine a_icmp_ge 44 dX8_boilAll_10 (by decide) (fun c1 => ?_) (fun c1 => ?_)
  · replace k := k.1 c1
    exact a_vret dX8_boilAll_44 rfl k
  · replace k := k.2 c1
    refine a_iload_n dX8_boilAll_13 rfl ?_
    refine a_iload_n dX8_boilAll_14 rfl ?_
    exact a_callS2 dX8_boilAll_15 (dh_Y_up cY_RX8_71 (by decide)) (Nat.le_of_ble_eq_true rfl) k
set_option maxRecDepth 100000 in
theorem w_X8_boilAll_18 {G : dh_G} {x1 x2 s0 : Int32} {h : dh_H} {Q : Option Value → dh_H → Prop} (k : ((s0 = 0) → dh_J G mX8_boilAll 2 [some (.ref 19), some (.int (x1)), some (.int (x2 + (nI 1)))] [] h Q) ∧ ((¬ s0 = 0) → (vp_in x2 6) ∧ (vp_in x2 6) ∧ (vp_in x2 6) ∧ dh_J G mX8_boilAll 2 [some (.ref 19), some (.int (x1)), some (.int (x2 + (nI 1)))] [] (dh_s (dh_s h 22 x2.toNatClampNeg (nI 0)) 21 x2.toNatClampNeg ((h 21 x2.toNatClampNeg) + (nI 1))) Q)) : dh_J G mX8_boilAll 18 [some (.ref 19), some (.int (x1)), some (.int (x2))] [.int (s0)] h Q := by
  refine a_if_eq 38 dX8_boilAll_18 (by decide) (fun c1 => ?_) (fun c1 => ?_)
  · replace k := k.1 c1
    refine a_iinc dX8_boilAll_38 (v := x2 + (nI 1)) rfl (by rfl) (by decide) rfl ?_
    refine a_goto 2 dX8_boilAll_41 (by decide) ?_
    exact k
  · replace k := k.2 c1
    refine a_aload_n dX8_boilAll_21 rfl ?_
    refine a_getR dX8_boilAll_22 fF_RX8_18 rfl rfl ?_
    refine a_iload_n dX8_boilAll_25 rfl ?_
    refine a_iconst dX8_boilAll_26 (v := nI 0) (by decide) ?_
    obtain ⟨e2, k⟩ := k
    refine a_iast dX8_boilAll_27 rfl e2 ?_
    refine a_aload_n dX8_boilAll_28 rfl ?_
    refine a_getR dX8_boilAll_29 fF_RX8_15 rfl rfl ?_
    refine a_iload_n dX8_boilAll_32 rfl ?_
    refine a_dup2 dX8_boilAll_33 rfl rfl ?_
    obtain ⟨e3, k⟩ := k
    refine a_iald dX8_boilAll_34 rfl e3 ?_
    refine a_iconst dX8_boilAll_35 (v := nI 1) (by decide) ?_
    refine a_iadd dX8_boilAll_36 ?_
    obtain ⟨e4, k⟩ := k
    refine a_iast dX8_boilAll_37 rfl e4 ?_
    refine a_iinc dX8_boilAll_38 (v := x2 + (nI 1)) rfl (by rfl) (by decide) rfl ?_
    refine a_goto 2 dX8_boilAll_41 (by decide) ?_
    exact k
set_option maxRecDepth 100000 in
theorem w_X8_passHour_0 {G : dh_G} {h : dh_H} {Q : Option Value → dh_H → Prop} (k : dh_C G mX8_calmSet [.ref 19] h (fun v h1 => dh_J G mX8_passHour 4 [some (.ref 19), none, none] (v.toList ++ []) h1 Q)) : dh_J G mX8_passHour 0 [some (.ref 19), none, none] [] h Q := by
  refine a_aload_n dX8_passHour_0 rfl ?_
  exact a_callV0 dX8_passHour_1 (dh_Y_up cY_RX8_83 (by decide)) rfl rfl (Nat.le_of_ble_eq_true rfl) k
theorem e_X8_passHour {G : dh_G} {h : dh_H} {Q : Option Value → dh_H → Prop} (k : dh_C G mX8_calmSet [.ref 19] h (fun v h1 => dh_J G mX8_passHour 4 [some (.ref 19), none, none] (v.toList ++ []) h1 Q)) : dh_C G mX8_passHour [.ref 19] h Q := dh_C_of [some (.ref 19), none, none] (by decide) (Nat.le_of_ble_eq_true rfl) rfl (w_X8_passHour_0 k)
set_option maxRecDepth 100000 in
theorem w_X8_passHour_4 {G : dh_G} {s0 : Int32} {h : dh_H} {Q : Option Value → dh_H → Prop} (k : dh_J G mX8_passHour 7 [some (.ref 19), some (.int (s0)), some (.int (nI 0))] [] h Q) : dh_J G mX8_passHour 4 [some (.ref 19), none, none] [.int (s0)] h Q := by
  refine a_istore_n dX8_passHour_4 (by decide) rfl ?_
  refine a_iconst dX8_passHour_5 (v := nI 0) (by decide) ?_
  refine a_istore_n dX8_passHour_6 (by decide) rfl ?_
  exact k
set_option maxRecDepth 100000 in
theorem w_X8_passHour_7 {G : dh_G} {x1 x2 : Int32} {h : dh_H} {Q : Option Value → dh_H → Prop} (k : (((h 3 3) ≤ x2) → Q none (dh_s h 19 1 ((h 19 1) + (nI 1)))) ∧ ((¬ (h 3 3) ≤ x2) → dh_C G mX9_isIn [.int (x1), .int (x2)] h (fun v h1 => dh_J G mX8_passHour 23 [some (.ref 19), some (.int (x1)), some (.int (x2))] (v.toList ++ []) h1 Q))) : dh_J G mX8_passHour 7 [some (.ref 19), some (.int (x1)), some (.int (x2))] [] h Q := by
  refine a_iload_n dX8_passHour_7 rfl ?_
  refine a_aload_n dX8_passHour_8 rfl ?_
  refine a_getR dX8_passHour_9 fF_RX8_27 rfl rfl ?_
  refine a_getI dX8_passHour_12 fF_RX8_57 rfl rfl ?_
  refine a_icmp_ge 61 dX8_passHour_15 (by decide) (fun c1 => ?_) (fun c1 => ?_)
  · replace k := k.1 c1
    refine a_aload_n dX8_passHour_61 rfl ?_
    refine a_dup dX8_passHour_62 rfl ?_
    refine a_getI dX8_passHour_63 fF_RX8_31 rfl rfl ?_
    refine a_iconst dX8_passHour_66 (v := nI 1) (by decide) ?_
    refine a_iadd dX8_passHour_67 ?_
    refine a_put dX8_passHour_68 fF_RX8_31 rfl rfl rfl rfl ?_
    exact a_vret dX8_passHour_71 rfl k
  · replace k := k.2 c1
    refine a_iload_n dX8_passHour_18 rfl ?_
    refine a_iload_n dX8_passHour_19 rfl ?_
    exact a_callS2 dX8_passHour_20 (dh_Y_up cY_RX8_71 (by decide)) (Nat.le_of_ble_eq_true rfl) k
set_option maxRecDepth 100000 in
theorem w_X8_passHour_23 {G : dh_G} {x1 x2 s0 : Int32} {h : dh_H} {Q : Option Value → dh_H → Prop} (k : ((¬ s0 = 0) → (vp_in x2 6) ∧ (((h 23 x2.toNatClampNeg) ≤ 0) → dh_J G mX8_passHour 7 [some (.ref 19), some (.int (x1)), some (.int (x2 + (nI 1)))] [] h Q) ∧ ((¬ (h 23 x2.toNatClampNeg) ≤ 0) → (vp_in x2 6) ∧ (vp_in x2 6) ∧ dh_J G mX8_passHour 7 [some (.ref 19), some (.int (x1)), some (.int (x2 + (nI 1)))] [] (dh_s h 23 x2.toNatClampNeg ((h 23 x2.toNatClampNeg) - (nI 1))) Q)) ∧ ((s0 = 0) → (vp_in x2 6) ∧ (vp_in x2 6) ∧ (vp_in x2 6) ∧ (((h 23 x2.toNatClampNeg) ≤ 0) → dh_J G mX8_passHour 7 [some (.ref 19), some (.int (x1)), some (.int (x2 + (nI 1)))] [] (dh_s h 24 x2.toNatClampNeg ((h 24 x2.toNatClampNeg) + (nI 1))) Q) ∧ ((¬ (h 23 x2.toNatClampNeg) ≤ 0) → (vp_in x2 6) ∧ (vp_in x2 6) ∧ dh_J G mX8_passHour 7 [some (.ref 19), some (.int (x1)), some (.int (x2 + (nI 1)))] [] (dh_s (dh_s h 24 x2.toNatClampNeg ((h 24 x2.toNatClampNeg) + (nI 1))) 23 x2.toNatClampNeg ((h 23 x2.toNatClampNeg) - (nI 1))) Q))) : dh_J G mX8_passHour 23 [some (.ref 19), some (.int (x1)), some (.int (x2))] [.int (s0)] h Q := by
  refine a_if_ne 36 dX8_passHour_23 (by decide) (fun c1 => ?_) (fun c1 => ?_)
  · replace k := k.1 c1
    refine a_aload_n dX8_passHour_36 rfl ?_
    refine a_getR dX8_passHour_37 fF_RX8_21 rfl rfl ?_
    refine a_iload_n dX8_passHour_40 rfl ?_
    obtain ⟨e2, k⟩ := k
    refine a_iald dX8_passHour_41 rfl e2 ?_
    refine a_if_le 55 dX8_passHour_42 (by decide) (fun c3 => ?_) (fun c3 => ?_)
    · replace k := k.1 c3
      refine a_iinc dX8_passHour_55 (v := x2 + (nI 1)) rfl (by rfl) (by decide) rfl ?_
      refine a_goto 7 dX8_passHour_58 (by decide) ?_
      exact k
    · replace k := k.2 c3
      refine a_aload_n dX8_passHour_45 rfl ?_
      refine a_getR dX8_passHour_46 fF_RX8_21 rfl rfl ?_
      refine a_iload_n dX8_passHour_49 rfl ?_
      refine a_dup2 dX8_passHour_50 rfl rfl ?_
      obtain ⟨e4, k⟩ := k
      refine a_iald dX8_passHour_51 rfl e4 ?_
      refine a_iconst dX8_passHour_52 (v := nI 1) (by decide) ?_
      refine a_isub dX8_passHour_53 ?_
      obtain ⟨e5, k⟩ := k
      refine a_iast dX8_passHour_54 rfl e5 ?_
      refine a_iinc dX8_passHour_55 (v := x2 + (nI 1)) rfl (by rfl) (by decide) rfl ?_
      refine a_goto 7 dX8_passHour_58 (by decide) ?_
      exact k
  · replace k := k.2 c1
    refine a_aload_n dX8_passHour_26 rfl ?_
    refine a_getR dX8_passHour_27 fF_RX8_24 rfl rfl ?_
    refine a_iload_n dX8_passHour_30 rfl ?_
    refine a_dup2 dX8_passHour_31 rfl rfl ?_
    obtain ⟨e6, k⟩ := k
    refine a_iald dX8_passHour_32 rfl e6 ?_
    refine a_iconst dX8_passHour_33 (v := nI 1) (by decide) ?_
    refine a_iadd dX8_passHour_34 ?_
    obtain ⟨e7, k⟩ := k
    refine a_iast dX8_passHour_35 rfl e7 ?_
    refine a_aload_n dX8_passHour_36 rfl ?_
    refine a_getR dX8_passHour_37 fF_RX8_21 rfl rfl ?_
    refine a_iload_n dX8_passHour_40 rfl ?_
    obtain ⟨e8, k⟩ := k
    refine a_iald dX8_passHour_41 rfl e8 ?_
    refine a_if_le 55 dX8_passHour_42 (by decide) (fun c9 => ?_) (fun c9 => ?_)
    · replace k := k.1 c9
      refine a_iinc dX8_passHour_55 (v := x2 + (nI 1)) rfl (by rfl) (by decide) rfl ?_
      refine a_goto 7 dX8_passHour_58 (by decide) ?_
      exact k
    · replace k := k.2 c9
      refine a_aload_n dX8_passHour_45 rfl ?_
      refine a_getR dX8_passHour_46 fF_RX8_21 rfl rfl ?_
      refine a_iload_n dX8_passHour_49 rfl ?_
      refine a_dup2 dX8_passHour_50 rfl rfl ?_
      obtain ⟨e10, k⟩ := k
      refine a_iald dX8_passHour_51 rfl e10 ?_
      refine a_iconst dX8_passHour_52 (v := nI 1) (by decide) ?_
      refine a_isub dX8_passHour_53 ?_
      obtain ⟨e11, k⟩ := k
      refine a_iast dX8_passHour_54 rfl e11 ?_
      refine a_iinc dX8_passHour_55 (v := x2 + (nI 1)) rfl (by rfl) (by decide) rfl ?_
      refine a_goto 7 dX8_passHour_58 (by decide) ?_
      exact k
set_option maxRecDepth 100000 in
theorem w_X8_tradeCalms_0 {G : dh_G} {x1 x2 : Int32} {h : dh_H} {Q : Option Value → dh_H → Prop} (k : dh_C G mX8_dummyOf [.ref 19, .int (x1)] h (fun v h1 => dh_J G mX8_tradeCalms 5 [some (.ref 19), some (.int (x1)), some (.int (x2)), none, none] (v.toList ++ []) h1 Q)) : dh_J G mX8_tradeCalms 0 [some (.ref 19), some (.int (x1)), some (.int (x2)), none, none] [] h Q := by
  refine a_aload_n dX8_tradeCalms_0 rfl ?_
  refine a_iload_n dX8_tradeCalms_1 rfl ?_
  exact a_callV1 dX8_tradeCalms_2 (dh_Y_up cY_RX8_60 (by decide)) rfl rfl (Nat.le_of_ble_eq_true rfl) k
theorem e_X8_tradeCalms {G : dh_G} {x1 x2 : Int32} {h : dh_H} {Q : Option Value → dh_H → Prop} (k : dh_C G mX8_dummyOf [.ref 19, .int (x1)] h (fun v h1 => dh_J G mX8_tradeCalms 5 [some (.ref 19), some (.int (x1)), some (.int (x2)), none, none] (v.toList ++ []) h1 Q)) : dh_C G mX8_tradeCalms [.ref 19, .int (x1), .int (x2)] h Q := dh_C_of [some (.ref 19), some (.int (x1)), some (.int (x2)), none, none] (by decide) (Nat.le_of_ble_eq_true rfl) rfl (w_X8_tradeCalms_0 k)
set_option maxRecDepth 100000 in
theorem w_X8_tradeCalms_5 {G : dh_G} {x1 x2 s0 : Int32} {h : dh_H} {Q : Option Value → dh_H → Prop} (k : dh_C G mX8_dummyOf [.ref 19, .int (x2)] h (fun v h1 => dh_J G mX8_tradeCalms 11 [some (.ref 19), some (.int (x1)), some (.int (x2)), some (.int (s0)), none] (v.toList ++ []) h1 Q)) : dh_J G mX8_tradeCalms 5 [some (.ref 19), some (.int (x1)), some (.int (x2)), none, none] [.int (s0)] h Q := by
  refine a_istore_n dX8_tradeCalms_5 (by decide) rfl ?_
  refine a_aload_n dX8_tradeCalms_6 rfl ?_
  refine a_iload_n dX8_tradeCalms_7 rfl ?_
  exact a_callV1 dX8_tradeCalms_8 (dh_Y_up cY_RX8_60 (by decide)) rfl rfl (Nat.le_of_ble_eq_true rfl) k
set_option maxRecDepth 100000 in
theorem w_X8_tradeCalms_11 {G : dh_G} {x1 x2 x3 s0 : Int32} {h : dh_H} {Q : Option Value → dh_H → Prop} (k : ((x3 = (-1 : Int32)) → Q (some (.int (nI 0))) h) ∧ ((¬ x3 = (-1 : Int32)) → ((¬ s0 = (-1 : Int32)) → dh_C G mX8_calmOf [.ref 19, .int (x1), .int (x3)] h (fun v h1 => dh_J G mX8_tradeCalms 32 [some (.ref 19), some (.int (x1)), some (.int (x2)), some (.int (x3)), some (.int (s0))] (v.toList ++ []) h1 Q)) ∧ ((s0 = (-1 : Int32)) → Q (some (.int (nI 0))) h))) : dh_J G mX8_tradeCalms 11 [some (.ref 19), some (.int (x1)), some (.int (x2)), some (.int (x3)), none] [.int (s0)] h Q := by
  refine a_istore dX8_tradeCalms_11 (by decide) rfl ?_
  refine a_iload_n dX8_tradeCalms_13 rfl ?_
  refine a_iconst dX8_tradeCalms_14 (v := (-1 : Int32)) (by decide) ?_
  refine a_icmp_eq 24 dX8_tradeCalms_15 (by decide) (fun c1 => ?_) (fun c1 => ?_)
  · replace k := k.1 c1
    refine a_iconst dX8_tradeCalms_24 (v := nI 0) (by decide) ?_
    exact a_zret dX8_tradeCalms_25 rfl (by decide) k
  · replace k := k.2 c1
    refine a_iload dX8_tradeCalms_18 rfl ?_
    refine a_iconst dX8_tradeCalms_20 (v := (-1 : Int32)) (by decide) ?_
    refine a_icmp_ne 26 dX8_tradeCalms_21 (by decide) (fun c2 => ?_) (fun c2 => ?_)
    · replace k := k.1 c2
      refine a_aload_n dX8_tradeCalms_26 rfl ?_
      refine a_iload_n dX8_tradeCalms_27 rfl ?_
      refine a_iload_n dX8_tradeCalms_28 rfl ?_
      exact a_callV2 dX8_tradeCalms_29 (dh_Y_up cY_RX8_86 (by decide)) rfl rfl (Nat.le_of_ble_eq_true rfl) k
    · replace k := k.2 c2
      refine a_iconst dX8_tradeCalms_24 (v := nI 0) (by decide) ?_
      exact a_zret dX8_tradeCalms_25 rfl (by decide) k
set_option maxRecDepth 100000 in
theorem w_X8_tradeCalms_32 {G : dh_G} {x1 x2 x3 x4 s0 : Int32} {h : dh_H} {Q : Option Value → dh_H → Prop} (k : dh_C G mX8_calmOf [.ref 19, .int (x2), .int (x4)] h (fun v h1 => dh_J G mX8_tradeCalms 39 [some (.ref 19), some (.int (x1)), some (.int (x2)), some (.int (x3)), some (.int (x4))] (v.toList ++ [.int (s0)]) h1 Q)) : dh_J G mX8_tradeCalms 32 [some (.ref 19), some (.int (x1)), some (.int (x2)), some (.int (x3)), some (.int (x4))] [.int (s0)] h Q := by
  refine a_aload_n dX8_tradeCalms_32 rfl ?_
  refine a_iload_n dX8_tradeCalms_33 rfl ?_
  refine a_iload dX8_tradeCalms_34 rfl ?_
  exact a_callV2 dX8_tradeCalms_36 (dh_Y_up cY_RX8_86 (by decide)) rfl rfl (Nat.le_of_ble_eq_true rfl) k
set_option maxRecDepth 100000 in
theorem w_X8_tradeCalms_39 {G : dh_G} {x1 x2 x3 x4 s0 s1 : Int32} {h : dh_H} {Q : Option Value → dh_H → Prop} (k : dh_C G mX8_calmOf [.ref 19, .int (x1), .int (x4)] h (fun v h1 => dh_J G mX8_tradeCalms 47 [some (.ref 19), none, some (.int (x2)), some (.int (x3)), none] (v.toList ++ [.int (s0 + s1)]) h1 Q)) : dh_J G mX8_tradeCalms 39 [some (.ref 19), some (.int (x1)), some (.int (x2)), some (.int (x3)), some (.int (x4))] [.int (s1), .int (s0)] h Q := by
  refine a_iadd dX8_tradeCalms_39 ?_
  refine a_aload_n dX8_tradeCalms_40 rfl ?_
  refine a_iload_n dX8_tradeCalms_41 rfl ?_
  refine a_iload dX8_tradeCalms_42 rfl ?_
  refine dh_drop 1 ?_
  refine dh_drop 4 ?_
  exact a_callV2 dX8_tradeCalms_44 (dh_Y_up cY_RX8_86 (by decide)) rfl rfl (Nat.le_of_ble_eq_true rfl) k
set_option maxRecDepth 100000 in
theorem w_X8_tradeCalms_47 {G : dh_G} {x2 x3 s0 s1 : Int32} {h : dh_H} {Q : Option Value → dh_H → Prop} (k : dh_C G mX8_calmOf [.ref 19, .int (x2), .int (x3)] h (fun v h1 => dh_J G mX8_tradeCalms 53 [none, none, none, none, none] (v.toList ++ [.int (s1), .int (s0)]) h1 Q)) : dh_J G mX8_tradeCalms 47 [some (.ref 19), none, some (.int (x2)), some (.int (x3)), none] [.int (s1), .int (s0)] h Q := by
  refine a_aload_n dX8_tradeCalms_47 rfl ?_
  refine a_iload_n dX8_tradeCalms_48 rfl ?_
  refine a_iload_n dX8_tradeCalms_49 rfl ?_
  refine dh_drop 0 ?_
  refine dh_drop 2 ?_
  refine dh_drop 3 ?_
  exact a_callV2 dX8_tradeCalms_50 (dh_Y_up cY_RX8_86 (by decide)) rfl rfl (Nat.le_of_ble_eq_true rfl) k
set_option maxRecDepth 100000 in
theorem w_X8_tradeCalms_53 {G : dh_G} {s0 s1 s2 : Int32} {h : dh_H} {Q : Option Value → dh_H → Prop} (k : (((s1 + s2) ≤ s0) → Q (some (.int (nI 0))) h) ∧ ((¬ (s1 + s2) ≤ s0) → Q (some (.int (nI 1))) h)) : dh_J G mX8_tradeCalms 53 [none, none, none, none, none] [.int (s2), .int (s1), .int (s0)] h Q := by
  refine a_iadd dX8_tradeCalms_53 ?_
  refine a_icmp_ge 61 dX8_tradeCalms_54 (by decide) (fun c1 => ?_) (fun c1 => ?_)
  · replace k := k.1 c1
    refine a_iconst dX8_tradeCalms_61 (v := nI 0) (by decide) ?_
    exact a_zret dX8_tradeCalms_62 rfl (by decide) k
  · replace k := k.2 c1
    refine a_iconst dX8_tradeCalms_57 (v := nI 1) (by decide) ?_
    refine a_goto 62 dX8_tradeCalms_58 (by decide) ?_
    exact a_zret dX8_tradeCalms_62 rfl (by decide) k
set_option maxRecDepth 100000 in
theorem w_X8_calmOf_0 {G : dh_G} {x1 x2 : Int32} {h : dh_H} {Q : Option Value → dh_H → Prop} (k : dh_C G mX5_takes [.ref 3, .int (x1), .int (x2)] h (fun v h1 => dh_J G mX8_calmOf 9 [none, none, none] (v.toList ++ []) h1 Q)) : dh_J G mX8_calmOf 0 [some (.ref 19), some (.int (x1)), some (.int (x2))] [] h Q := by
  refine a_aload_n dX8_calmOf_0 rfl ?_
  refine a_getR dX8_calmOf_1 fF_RX8_27 rfl rfl ?_
  refine a_iload_n dX8_calmOf_4 rfl ?_
  refine a_iload_n dX8_calmOf_5 rfl ?_
  refine dh_drop 0 ?_
  refine dh_drop 1 ?_
  refine dh_drop 2 ?_
  exact a_callV2 dX8_calmOf_6 (dh_Y_up cY_RX8_63 (by decide)) rfl rfl (Nat.le_of_ble_eq_true rfl) k
theorem e_X8_calmOf {G : dh_G} {x1 x2 : Int32} {h : dh_H} {Q : Option Value → dh_H → Prop} (k : dh_C G mX5_takes [.ref 3, .int (x1), .int (x2)] h (fun v h1 => dh_J G mX8_calmOf 9 [none, none, none] (v.toList ++ []) h1 Q)) : dh_C G mX8_calmOf [.ref 19, .int (x1), .int (x2)] h Q := dh_C_of [some (.ref 19), some (.int (x1)), some (.int (x2))] (by decide) (Nat.le_of_ble_eq_true rfl) rfl (w_X8_calmOf_0 k)
set_option maxRecDepth 100000 in
theorem w_X8_calmOf_9 {G : dh_G} {s0 : Int32} {h : dh_H} {Q : Option Value → dh_H → Prop} (k : ((s0 = 0) → Q (some (.int (nI 0))) h) ∧ ((¬ s0 = 0) → Q (some (.int (nI 1))) h)) : dh_J G mX8_calmOf 9 [none, none, none] [.int (s0)] h Q := by
  refine a_if_eq 16 dX8_calmOf_9 (by decide) (fun c1 => ?_) (fun c1 => ?_)
  · replace k := k.1 c1
    refine a_iconst dX8_calmOf_16 (v := nI 0) (by decide) ?_
    exact a_iret dX8_calmOf_17 rfl k
  · replace k := k.2 c1
    refine a_iconst dX8_calmOf_12 (v := nI 1) (by decide) ?_
    refine a_goto 17 dX8_calmOf_13 (by decide) ?_
    exact a_iret dX8_calmOf_17 rfl k
