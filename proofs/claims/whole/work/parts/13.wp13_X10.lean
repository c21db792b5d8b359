set_option maxRecDepth 100000 in
theorem w_X10_note_26 {G : dh_G} {h : dh_H} {Q : Option Value → dh_H → Prop} (k : dh_C G mX10_bring [.ref 68, .int (nI 0), .ref 69, .int ((nI 32) * ((h 61 26) - (nI 1))), .int (nI 32)] (dh_s h 61 26 ((h 61 26) - (nI 1))) (fun v h1 => dh_J G mX10_note 57 [some (.ref 61)] (v.toList ++ []) h1 Q)) : dh_J G mX10_note 26 [some (.ref 61)] [] h Q := by
  refine a_aload_n dX10_note_26 rfl ?_
  refine a_dup dX10_note_27 rfl ?_
  refine a_getI dX10_note_28 fF_RX10_167 rfl rfl ?_
  refine a_iconst dX10_note_31 (v := nI 1) (by decide) ?_
  refine a_isub dX10_note_32 ?_
  refine a_put dX10_note_33 fF_RX10_167 rfl rfl rfl rfl ?_
  refine a_aload_n dX10_note_36 rfl ?_
  refine a_getR dX10_note_37 fF_RX10_32 rfl rfl ?_
  refine a_iconst dX10_note_40 (v := nI 0) (by decide) ?_
  refine a_aload_n dX10_note_41 rfl ?_
  refine a_getR dX10_note_42 fF_RX10_35 rfl rfl ?_
  refine a_bipush dX10_note_45 (v := nI 32) (by decide) ?_
  refine a_aload_n dX10_note_47 rfl ?_
  refine a_getI dX10_note_48 fF_RX10_167 rfl rfl ?_
  refine a_imul dX10_note_51 ?_
  refine a_bipush dX10_note_52 (v := nI 32) (by decide) ?_
  exact a_callS5 dX10_note_54 (dh_Y_up cY_RX10_157 (by decide)) (Nat.le_of_ble_eq_true rfl) k
set_option maxRecDepth 100000 in
theorem w_X10_note_57 {G : dh_G} {h : dh_H} {Q : Option Value → dh_H → Prop} (k : Q none (dh_s h 61 26 ((h 61 26) + (nI 1)))) : dh_J G mX10_note 57 [some (.ref 61)] [] h Q := by
  refine a_aload_n dX10_note_57 rfl ?_
  refine a_dup dX10_note_58 rfl ?_
  refine a_getI dX10_note_59 fF_RX10_167 rfl rfl ?_
  refine a_iconst dX10_note_62 (v := nI 1) (by decide) ?_
  refine a_iadd dX10_note_63 ?_
  refine a_put dX10_note_64 fF_RX10_167 rfl rfl rfl rfl ?_
  exact a_vret dX10_note_67 rfl k
set_option maxRecDepth 100000 in
theorem w_X10_goBy_0 {G : dh_G} {h : dh_H} {Q : Option Value → dh_H → Prop} (k : dh_C G mX10_calmOnes [.ref 61] h (fun v h1 => dh_J G mX10_goBy 4 [some (.ref 61), none, none] (v.toList ++ []) h1 Q)) : dh_J G mX10_goBy 0 [some (.ref 61), none, none] [] h Q := by
  refine a_aload_n dX10_goBy_0 rfl ?_
  exact a_callV0 dX10_goBy_1 (dh_Y_up cY_RX10_179 (by decide)) rfl rfl (Nat.le_of_ble_eq_true rfl) k
theorem e_X10_goBy {G : dh_G} {h : dh_H} {Q : Option Value → dh_H → Prop} (k : dh_C G mX10_calmOnes [.ref 61] h (fun v h1 => dh_J G mX10_goBy 4 [some (.ref 61), none, none] (v.toList ++ []) h1 Q)) : dh_C G mX10_goBy [.ref 61] h Q := dh_C_of [some (.ref 61), none, none] (by decide) (Nat.le_of_ble_eq_true rfl) rfl (w_X10_goBy_0 k)
set_option maxRecDepth 100000 in
theorem w_X10_goBy_4 {G : dh_G} {s0 : Int32} {h : dh_H} {Q : Option Value → dh_H → Prop} (k : dh_J G mX10_goBy 7 [some (.ref 61), some (.int (s0)), some (.int (nI 0))] [] h Q) : dh_J G mX10_goBy 4 [some (.ref 61), none, none] [.int (s0)] h Q := by
  refine a_istore_n dX10_goBy_4 (by decide) rfl ?_
  refine a_iconst dX10_goBy_5 (v := nI 0) (by decide) ?_
  refine a_istore_n dX10_goBy_6 (by decide) rfl ?_
  exact k
set_option maxRecDepth 100000 in
theorem w_X10_goBy_7 {G : dh_G} {x1 x2 : Int32} {h : dh_H} {Q : Option Value → dh_H → Prop} (k : (((h 61 19) ≤ x2) → Q none (dh_s h 68 0 ((h 68 0) + (nI 1)))) ∧ ((¬ (h 61 19) ≤ x2) → (vp_in ((nI 13) + x2) 32) ∧ dh_C G mX10_has [.int (x1), .int (x2)] h (fun v h1 => dh_J G mX10_goBy 30 [some (.ref 61), some (.int (x1)), some (.int (x2))] (v.toList ++ [.int (h 68 ((nI 13) + x2).toNatClampNeg), .int ((nI 13) + x2), .ref 68]) h1 Q))) : dh_J G mX10_goBy 7 [some (.ref 61), some (.int (x1)), some (.int (x2))] [] h Q := by
  refine a_iload_n dX10_goBy_7 rfl ?_
  refine a_aload_n dX10_goBy_8 rfl ?_
  refine a_getI dX10_goBy_9 fF_RX10_66 rfl rfl ?_
  refine a_icmp_ge 75 dX10_goBy_12 (by decide) (fun c1 => ?_) (fun c1 => ?_)
  · replace k := k.1 c1
    refine a_aload_n dX10_goBy_75 rfl ?_
    refine a_getR dX10_goBy_76 fF_RX10_32 rfl rfl ?_
    refine a_iconst dX10_goBy_79 (v := nI 0) (by decide) ?_
    refine a_dup2 dX10_goBy_80 rfl rfl ?_
    refine a_ialdN dX10_goBy_81 rfl (j := 0) rfl (by decide) (by decide) ?_
    refine a_iconst dX10_goBy_82 (v := nI 1) (by decide) ?_
    refine a_iadd dX10_goBy_83 ?_
    refine a_iastN dX10_goBy_84 rfl (j := 0) rfl (by decide) (by decide) ?_
    exact a_vret dX10_goBy_85 rfl k
  · replace k := k.2 c1
    refine a_aload_n dX10_goBy_15 rfl ?_
    refine a_getR dX10_goBy_16 fF_RX10_32 rfl rfl ?_
    refine a_bipush dX10_goBy_19 (v := nI 13) (by decide) ?_
    refine a_iload_n dX10_goBy_21 rfl ?_
    refine a_iadd dX10_goBy_22 ?_
    refine a_dup2 dX10_goBy_23 rfl rfl ?_
    obtain ⟨e2, k⟩ := k
    refine a_iald dX10_goBy_24 rfl e2 ?_
    refine a_iload_n dX10_goBy_25 rfl ?_
    refine a_iload_n dX10_goBy_26 rfl ?_
    exact a_callS2 dX10_goBy_27 (dh_Y_up cY_RX10_200 (by decide)) (Nat.le_of_ble_eq_true rfl) k
set_option maxRecDepth 100000 in
theorem w_X10_goBy_30 {G : dh_G} {x1 x2 s1 s2 s3 : Int32} {h : dh_H} {Q : Option Value → dh_H → Prop} (k : ((s3 = 0) → (vp_in s1 32) ∧ (vp_in ((nI 7) + x2) 32) ∧ (vp_in ((nI 7) + x2) 32) ∧ ((((dh_s h 68 s1.toNatClampNeg (s2 + (nI 1))) 68 ((nI 7) + x2).toNatClampNeg) ≤ 0) → (vp_in ((nI 7) + x2) 32) ∧ dh_J G mX10_goBy 7 [some (.ref 61), some (.int (x1)), some (.int (x2 + (nI 1)))] [] (dh_s (dh_s h 68 s1.toNatClampNeg (s2 + (nI 1))) 68 ((nI 7) + x2).toNatClampNeg (((dh_s h 68 s1.toNatClampNeg (s2 + (nI 1))) 68 ((nI 7) + x2).toNatClampNeg) - (nI 0))) Q) ∧ ((¬ ((dh_s h 68 s1.toNatClampNeg (s2 + (nI 1))) 68 ((nI 7) + x2).toNatClampNeg) ≤ 0) → (vp_in ((nI 7) + x2) 32) ∧ dh_J G mX10_goBy 7 [some (.ref 61), some (.int (x1)), some (.int (x2 + (nI 1)))] [] (dh_s (dh_s h 68 s1.toNatClampNeg (s2 + (nI 1))) 68 ((nI 7) + x2).toNatClampNeg (((dh_s h 68 s1.toNatClampNeg (s2 + (nI 1))) 68 ((nI 7) + x2).toNatClampNeg) - (nI 1))) Q)) ∧ ((¬ s3 = 0) → (vp_in s1 32) ∧ (vp_in ((nI 7) + x2) 32) ∧ (vp_in ((nI 7) + x2) 32) ∧ ((((dh_s h 68 s1.toNatClampNeg (s2 + (nI 0))) 68 ((nI 7) + x2).toNatClampNeg) ≤ 0) → (vp_in ((nI 7) + x2) 32) ∧ dh_J G mX10_goBy 7 [some (.ref 61), some (.int (x1)), some (.int (x2 + (nI 1)))] [] (dh_s (dh_s h 68 s1.toNatClampNeg (s2 + (nI 0))) 68 ((nI 7) + x2).toNatClampNeg (((dh_s h 68 s1.toNatClampNeg (s2 + (nI 0))) 68 ((nI 7) + x2).toNatClampNeg) - (nI 0))) Q) ∧ ((¬ ((dh_s h 68 s1.toNatClampNeg (s2 + (nI 0))) 68 ((nI 7) + x2).toNatClampNeg) ≤ 0) → (vp_in ((nI 7) + x2) 32) ∧ dh_J G mX10_goBy 7 [some (.ref 61), some (.int (x1)), some (.int (x2 + (nI 1)))] [] (dh_s (dh_s h 68 s1.toNatClampNeg (s2 + (nI 0))) 68 ((nI 7) + x2).toNatClampNeg (((dh_s h 68 s1.toNatClampNeg (s2 + (nI 0))) 68 ((nI 7) + x2).toNatClampNeg) - (nI 1))) Q))) : dh_J G mX10_goBy 30 [some (.ref 61), some (.int (x1)), some (.int (x2))] [.int (s3), .int (s2), .int (s1), .ref 68] h Q := by
  refine a_if_eq 37 dX10_goBy_30 (by decide) (fun c1 => ?_) (fun c1 => ?_)
  · replace k := k.1 c1
    refine a_iconst dX10_goBy_37 (v := nI 1) (by decide) ?_
    refine a_iadd dX10_goBy_38 ?_
    obtain ⟨e2, k⟩ := k
    refine a_iast dX10_goBy_39 rfl e2 ?_
    refine a_aload_n dX10_goBy_40 rfl ?_
    refine a_getR dX10_goBy_41 fF_RX10_32 rfl rfl ?_
    refine a_bipush dX10_goBy_44 (v := nI 7) (by decide) ?_
    refine a_iload_n dX10_goBy_46 rfl ?_
    refine a_iadd dX10_goBy_47 ?_
    refine a_dup2 dX10_goBy_48 rfl rfl ?_
    obtain ⟨e3, k⟩ := k
    refine a_iald dX10_goBy_49 rfl e3 ?_
    refine a_aload_n dX10_goBy_50 rfl ?_
    refine a_getR dX10_goBy_51 fF_RX10_32 rfl rfl ?_
    refine a_bipush dX10_goBy_54 (v := nI 7) (by decide) ?_
    refine a_iload_n dX10_goBy_56 rfl ?_
    refine a_iadd dX10_goBy_57 ?_
    obtain ⟨e4, k⟩ := k
    refine a_iald dX10_goBy_58 rfl e4 ?_
    refine a_if_le 66 dX10_goBy_59 (by decide) (fun c5 => ?_) (fun c5 => ?_)
    · replace k := k.1 c5
      refine a_iconst dX10_goBy_66 (v := nI 0) (by decide) ?_
      refine a_isub dX10_goBy_67 ?_
      obtain ⟨e6, k⟩ := k
      refine a_iast dX10_goBy_68 rfl e6 ?_
      refine a_iinc dX10_goBy_69 (v := x2 + (nI 1)) rfl (by rfl) (by decide) rfl ?_
      refine a_goto 7 dX10_goBy_72 (by decide) ?_
      exact k
    · replace k := k.2 c5
      refine a_iconst dX10_goBy_62 (v := nI 1) (by decide) ?_
      refine a_goto 67 dX10_goBy_63 (by decide) ?_
      refine a_isub dX10_goBy_67 ?_
      obtain ⟨e7, k⟩ := k
      refine a_iast dX10_goBy_68 rfl e7 ?_
      refine a_iinc dX10_goBy_69 (v := x2 + (nI 1)) rfl (by rfl) (by decide) rfl ?_
      refine a_goto 7 dX10_goBy_72 (by decide) ?_
      exact k
  · replace k := k.2 c1
    refine a_iconst dX10_goBy_33 (v := nI 0) (by decide) ?_
    refine a_goto 38 dX10_goBy_34 (by decide) ?_
    refine a_iadd dX10_goBy_38 ?_
    obtain ⟨e8, k⟩ := k
    refine a_iast dX10_goBy_39 rfl e8 ?_
    refine a_aload_n dX10_goBy_40 rfl ?_
    refine a_getR dX10_goBy_41 fF_RX10_32 rfl rfl ?_
    refine a_bipush dX10_goBy_44 (v := nI 7) (by decide) ?_
    refine a_iload_n dX10_goBy_46 rfl ?_
    refine a_iadd dX10_goBy_47 ?_
    refine a_dup2 dX10_goBy_48 rfl rfl ?_
    obtain ⟨e9, k⟩ := k
    refine a_iald dX10_goBy_49 rfl e9 ?_
    refine a_aload_n dX10_goBy_50 rfl ?_
    refine a_getR dX10_goBy_51 fF_RX10_32 rfl rfl ?_
    refine a_bipush dX10_goBy_54 (v := nI 7) (by decide) ?_
    refine a_iload_n dX10_goBy_56 rfl ?_
    refine a_iadd dX10_goBy_57 ?_
    obtain ⟨e10, k⟩ := k
    refine a_iald dX10_goBy_58 rfl e10 ?_
    refine a_if_le 66 dX10_goBy_59 (by decide) (fun c11 => ?_) (fun c11 => ?_)
    · replace k := k.1 c11
      refine a_iconst dX10_goBy_66 (v := nI 0) (by decide) ?_
      refine a_isub dX10_goBy_67 ?_
      obtain ⟨e12, k⟩ := k
      refine a_iast dX10_goBy_68 rfl e12 ?_
      refine a_iinc dX10_goBy_69 (v := x2 + (nI 1)) rfl (by rfl) (by decide) rfl ?_
      refine a_goto 7 dX10_goBy_72 (by decide) ?_
      exact k
    · replace k := k.2 c11
      refine a_iconst dX10_goBy_62 (v := nI 1) (by decide) ?_
      refine a_goto 67 dX10_goBy_63 (by decide) ?_
      refine a_isub dX10_goBy_67 ?_
      obtain ⟨e13, k⟩ := k
      refine a_iast dX10_goBy_68 rfl e13 ?_
      refine a_iinc dX10_goBy_69 (v := x2 + (nI 1)) rfl (by rfl) (by decide) rfl ?_
      refine a_goto 7 dX10_goBy_72 (by decide) ?_
      exact k
set_option maxRecDepth 100000 in
theorem w_X10_noHours_0 {G : dh_G} {x1 : Int32} {h : dh_H} {Q : Option Value → dh_H → Prop} (k : dh_C G mX10_in [.int (x1), .int (nI 1), .int (nI 60)] h (fun v h1 => dh_J G mX10_noHours 7 [some (.ref 61), none] (v.toList ++ []) h1 Q)) : dh_J G mX10_noHours 0 [some (.ref 61), some (.int (x1))] [] h Q := by
  refine a_iload_n dX10_noHours_0 rfl ?_
  refine a_iconst dX10_noHours_1 (v := nI 1) (by decide) ?_
  refine a_bipush dX10_noHours_2 (v := nI 60) (by decide) ?_
  refine dh_drop 1 ?_
  exact a_callS3 dX10_noHours_4 (dh_Y_up cY_RX10_69 (by decide)) (Nat.le_of_ble_eq_true rfl) k
theorem e_X10_noHours {G : dh_G} {x1 : Int32} {h : dh_H} {Q : Option Value → dh_H → Prop} (k : dh_C G mX10_in [.int (x1), .int (nI 1), .int (nI 60)] h (fun v h1 => dh_J G mX10_noHours 7 [some (.ref 61), none] (v.toList ++ []) h1 Q)) : dh_C G mX10_noHours [.ref 61, .int (x1)] h Q := dh_C_of [some (.ref 61), some (.int (x1))] (by decide) (Nat.le_of_ble_eq_true rfl) rfl (w_X10_noHours_0 k)
set_option maxRecDepth 100000 in
theorem w_X10_noHours_7 {G : dh_G} {s0 : Int32} {h : dh_H} {Q : Option Value → dh_H → Prop} (k : ((¬ s0 = 0) → ((¬ (h 61 16) = 0) → (((h 68 0) ≤ (nI 9000)) → Q (some (.int (nI 0))) h) ∧ ((¬ (h 68 0) ≤ (nI 9000)) → Q (some (.int ((-1000000004 : Int32)))) h)) ∧ (((h 61 16) = 0) → Q (some (.int ((-1000000003 : Int32)))) h)) ∧ ((s0 = 0) → Q (some (.int ((-1000000002 : Int32)))) h)) : dh_J G mX10_noHours 7 [some (.ref 61), none] [.int (s0)] h Q := by
  refine a_if_ne 15 dX10_noHours_7 (by decide) (fun c1 => ?_) (fun c1 => ?_)
  · replace k := k.1 c1
    refine a_aload_n dX10_noHours_15 rfl ?_
    refine a_getI dX10_noHours_16 fF_RX10_148 rfl rfl ?_
    refine a_if_ne 27 dX10_noHours_19 (by decide) (fun c2 => ?_) (fun c2 => ?_)
    · replace k := k.1 c2
      refine a_aload_n dX10_noHours_27 rfl ?_
      refine a_getR dX10_noHours_28 fF_RX10_32 rfl rfl ?_
      refine a_iconst dX10_noHours_31 (v := nI 0) (by decide) ?_
      refine a_ialdN dX10_noHours_32 rfl (j := 0) rfl (by decide) (by decide) ?_
      refine a_sipush dX10_noHours_33 (v := nI 9000) (by decide) ?_
      refine a_icmp_le 44 dX10_noHours_36 (by decide) (fun c3 => ?_) (fun c3 => ?_)
      · replace k := k.1 c3
        refine a_iconst dX10_noHours_44 (v := nI 0) (by decide) ?_
        exact a_iret dX10_noHours_45 rfl k
      · replace k := k.2 c3
        refine a_ldc dX10_noHours_39 (v := (-1000000004 : Int32)) kK_RX10_80 ?_
        refine a_goto 45 dX10_noHours_41 (by decide) ?_
        exact a_iret dX10_noHours_45 rfl k
    · replace k := k.2 c2
      refine a_ldc dX10_noHours_22 (v := (-1000000003 : Int32)) kK_RX10_203 ?_
      refine a_goto 45 dX10_noHours_24 (by decide) ?_
      exact a_iret dX10_noHours_45 rfl k
  · replace k := k.2 c1
    refine a_ldc dX10_noHours_10 (v := (-1000000002 : Int32)) kK_RX10_76 ?_
    refine a_goto 45 dX10_noHours_12 (by decide) ?_
    exact a_iret dX10_noHours_45 rfl k
set_option maxRecDepth 100000 in
theorem w_X10_hour_0 {G : dh_G} {x1 : Int32} {h : dh_H} {Q : Option Value → dh_H → Prop} (k : dh_C G mX10_noHours [.ref 61, .int (x1)] h (fun v h1 => dh_J G mX10_hour 5 [some (.ref 61), some (.int (x1)), none] (v.toList ++ []) h1 Q)) : dh_J G mX10_hour 0 [some (.ref 61), some (.int (x1)), none] [] h Q := by
  refine a_aload_n dX10_hour_0 rfl ?_
  refine a_iload_n dX10_hour_1 rfl ?_
  exact a_callV1 dX10_hour_2 (dh_Y_up cY_RX10_204 (by decide)) rfl rfl (Nat.le_of_ble_eq_true rfl) k
theorem e_X10_hour {G : dh_G} {x1 : Int32} {h : dh_H} {Q : Option Value → dh_H → Prop} (k : dh_C G mX10_noHours [.ref 61, .int (x1)] h (fun v h1 => dh_J G mX10_hour 5 [some (.ref 61), some (.int (x1)), none] (v.toList ++ []) h1 Q)) : dh_C G mX10_hour [.ref 61, .int (x1)] h Q := dh_C_of [some (.ref 61), some (.int (x1)), none] (by decide) (Nat.le_of_ble_eq_true rfl) rfl (w_X10_hour_0 k)
set_option maxRecDepth 100000 in
theorem w_X10_hour_5 {G : dh_G} {x1 s0 : Int32} {h : dh_H} {Q : Option Value → dh_H → Prop} (k : ((s0 = 0) → dh_C G mX10_note [.ref 61] h (fun v h1 => dh_J G mX10_hour 18 [some (.ref 61), some (.int (x1)), none] (v.toList ++ []) h1 Q)) ∧ ((¬ s0 = 0) → dh_C G mX10_noHours [.ref 61, .int (x1)] h (fun v h1 => dh_J G mX10_hour 13 [none, none, none] (v.toList ++ []) h1 Q))) : dh_J G mX10_hour 5 [some (.ref 61), some (.int (x1)), none] [.int (s0)] h Q := by
  refine a_if_eq 14 dX10_hour_5 (by decide) (fun c1 => ?_) (fun c1 => ?_)
  · replace k := k.1 c1
    refine a_aload_n dX10_hour_14 rfl ?_
    exact a_callV0 dX10_hour_15 (dh_Y_up cY_RX10_207 (by decide)) rfl rfl (Nat.le_of_ble_eq_true rfl) k
  · replace k := k.2 c1
    refine a_aload_n dX10_hour_8 rfl ?_
    refine a_iload_n dX10_hour_9 rfl ?_
    refine dh_drop 0 ?_
    refine dh_drop 1 ?_
    exact a_callV1 dX10_hour_10 (dh_Y_up cY_RX10_204 (by decide)) rfl rfl (Nat.le_of_ble_eq_true rfl) k
set_option maxRecDepth 100000 in
theorem w_X10_hour_13 {G : dh_G} {s0 : Int32} {h : dh_H} {Q : Option Value → dh_H → Prop} (k : Q (some (.int (s0))) h) : dh_J G mX10_hour 13 [none, none, none] [.int (s0)] h Q := by
  exact a_iret dX10_hour_13 rfl k
set_option maxRecDepth 100000 in
theorem w_X10_hour_18 {G : dh_G} {x1 : Int32} {h : dh_H} {Q : Option Value → dh_H → Prop} (k : dh_J G mX10_hour 20 [some (.ref 61), some (.int (x1)), some (.int (nI 0))] [] h Q) : dh_J G mX10_hour 18 [some (.ref 61), some (.int (x1)), none] [] h Q := by
  refine a_iconst dX10_hour_18 (v := nI 0) (by decide) ?_
  refine a_istore_n dX10_hour_19 (by decide) rfl ?_
  exact k
set_option maxRecDepth 100000 in
theorem w_X10_hour_20 {G : dh_G} {x1 x2 : Int32} {h : dh_H} {Q : Option Value → dh_H → Prop} (k : ((x1 ≤ x2) → Q (some (.int (h 68 0))) h) ∧ ((¬ x1 ≤ x2) → dh_C G mX10_goBy [.ref 61] h (fun v h1 => dh_J G mX10_hour 29 [some (.ref 61), some (.int (x1)), some (.int (x2))] (v.toList ++ []) h1 Q))) : dh_J G mX10_hour 20 [some (.ref 61), some (.int (x1)), some (.int (x2))] [] h Q := by
  refine a_iload_n dX10_hour_20 rfl ?_
  refine a_iload_n dX10_hour_21 rfl ?_
  refine a_icmp_ge 35 dX10_hour_22 (by decide) (fun c1 => ?_) (fun c1 => ?_)
  · replace k := k.1 c1
    refine a_aload_n dX10_hour_35 rfl ?_
    refine a_getR dX10_hour_36 fF_RX10_32 rfl rfl ?_
    refine a_iconst dX10_hour_39 (v := nI 0) (by decide) ?_
    refine a_ialdN dX10_hour_40 rfl (j := 0) rfl (by decide) (by decide) ?_
    exact a_iret dX10_hour_41 rfl k
  · replace k := k.2 c1
    refine a_aload_n dX10_hour_25 rfl ?_
    exact a_callV0 dX10_hour_26 (dh_Y_up cY_RX10_210 (by decide)) rfl rfl (Nat.le_of_ble_eq_true rfl) k
set_option maxRecDepth 100000 in
theorem w_X10_hour_29 {G : dh_G} {x1 x2 : Int32} {h : dh_H} {Q : Option Value → dh_H → Prop} (k : dh_J G mX10_hour 20 [some (.ref 61), some (.int (x1)), some (.int (x2 + (nI 1)))] [] h Q) : dh_J G mX10_hour 29 [some (.ref 61), some (.int (x1)), some (.int (x2))] [] h Q := by
  refine a_iinc dX10_hour_29 (v := x2 + (nI 1)) rfl (by rfl) (by decide) rfl ?_
  refine a_goto 20 dX10_hour_32 (by decide) ?_
  exact k
set_option maxRecDepth 100000 in
theorem w_X10_canGive_0 {G : dh_G} {x1 x2 : Int32} {h : dh_H} {Q : Option Value → dh_H → Prop} (k : dh_C G mX10_holderOf [.ref 61, .int (x1)] h (fun v h1 => dh_J G mX10_canGive 5 [some (.ref 61), none, some (.int (x2))] (v.toList ++ []) h1 Q)) : dh_J G mX10_canGive 0 [some (.ref 61), some (.int (x1)), some (.int (x2))] [] h Q := by
  refine a_aload_n dX10_canGive_0 rfl ?_
  refine a_iload_n dX10_canGive_1 rfl ?_
  refine dh_drop 1 ?_
  exact a_callV1 dX10_canGive_2 (dh_Y_up cY_RX10_196 (by decide)) rfl rfl (Nat.le_of_ble_eq_true rfl) k
theorem e_X10_canGive {G : dh_G} {x1 x2 : Int32} {h : dh_H} {Q : Option Value → dh_H → Prop} (k : dh_C G mX10_holderOf [.ref 61, .int (x1)] h (fun v h1 => dh_J G mX10_canGive 5 [some (.ref 61), none, some (.int (x2))] (v.toList ++ []) h1 Q)) : dh_C G mX10_canGive [.ref 61, .int (x1), .int (x2)] h Q := dh_C_of [some (.ref 61), some (.int (x1)), some (.int (x2))] (by decide) (Nat.le_of_ble_eq_true rfl) rfl (w_X10_canGive_0 k)
set_option maxRecDepth 100000 in
theorem w_X10_canGive_5 {G : dh_G} {x2 s0 : Int32} {h : dh_H} {Q : Option Value → dh_H → Prop} (k : ((¬ s0 = (-1 : Int32)) → Q (some (.int (nI 0))) h) ∧ ((s0 = (-1 : Int32)) → (vp_in ((nI 1) + x2) 32) ∧ ((¬ (h 68 ((nI 1) + x2).toNatClampNeg) = (-1 : Int32)) → Q (some (.int (nI 0))) h) ∧ (((h 68 ((nI 1) + x2).toNatClampNeg) = (-1 : Int32)) → Q (some (.int (nI 1))) h))) : dh_J G mX10_canGive 5 [some (.ref 61), none, some (.int (x2))] [.int (s0)] h Q := by
  refine a_iconst dX10_canGive_5 (v := (-1 : Int32)) (by decide) ?_
  refine a_icmp_ne 25 dX10_canGive_6 (by decide) (fun c1 => ?_) (fun c1 => ?_)
  · replace k := k.1 c1
    refine a_iconst dX10_canGive_25 (v := nI 0) (by decide) ?_
    exact a_zret dX10_canGive_26 rfl (by decide) k
  · replace k := k.2 c1
    refine a_aload_n dX10_canGive_9 rfl ?_
    refine a_getR dX10_canGive_10 fF_RX10_32 rfl rfl ?_
    refine a_iconst dX10_canGive_13 (v := nI 1) (by decide) ?_
    refine a_iload_n dX10_canGive_14 rfl ?_
    refine a_iadd dX10_canGive_15 ?_
    obtain ⟨e2, k⟩ := k
    refine a_iald dX10_canGive_16 rfl e2 ?_
    refine a_iconst dX10_canGive_17 (v := (-1 : Int32)) (by decide) ?_
    refine a_icmp_ne 25 dX10_canGive_18 (by decide) (fun c3 => ?_) (fun c3 => ?_)
    · replace k := k.1 c3
      refine a_iconst dX10_canGive_25 (v := nI 0) (by decide) ?_
      exact a_zret dX10_canGive_26 rfl (by decide) k
    · replace k := k.2 c3
      refine a_iconst dX10_canGive_21 (v := nI 1) (by decide) ?_
      refine a_goto 26 dX10_canGive_22 (by decide) ?_
      exact a_zret dX10_canGive_26 rfl (by decide) k
set_option maxRecDepth 100000 in
theorem w_X10_gives_0 {G : dh_G} {x1 x2 : Int32} {h : dh_H} {Q : Option Value → dh_H → Prop} (k : (vp_in ((nI 1) + x2) 32) ∧ dh_C G mX10_takes [.ref 61, .int (x2), .int (x1)] (dh_s (dh_s h 68 ((nI 1) + x2).toNatClampNeg x1) 68 19 (((dh_s h 68 ((nI 1) + x2).toNatClampNeg x1) 68 19) &&& (((nI 1) <<< (x1 &&& 31)) ^^^ (-1 : Int32)))) (fun v h1 => dh_J G mX10_gives 35 [some (.ref 61), some (.int (x1)), some (.int (x2))] (v.toList ++ []) h1 Q)) : dh_J G mX10_gives 0 [some (.ref 61), some (.int (x1)), some (.int (x2))] [] h Q := by
  refine a_aload_n dX10_gives_0 rfl ?_
  refine a_getR dX10_gives_1 fF_RX10_32 rfl rfl ?_
  refine a_iconst dX10_gives_4 (v := nI 1) (by decide) ?_
  refine a_iload_n dX10_gives_5 rfl ?_
  refine a_iadd dX10_gives_6 ?_
  refine a_iload_n dX10_gives_7 rfl ?_
  obtain ⟨e1, k⟩ := k
  refine a_iast dX10_gives_8 rfl e1 ?_
  refine a_aload_n dX10_gives_9 rfl ?_
  refine a_getR dX10_gives_10 fF_RX10_32 rfl rfl ?_
  refine a_bipush dX10_gives_13 (v := nI 19) (by decide) ?_
  refine a_aload_n dX10_gives_15 rfl ?_
  refine a_getR dX10_gives_16 fF_RX10_32 rfl rfl ?_
  refine a_bipush dX10_gives_19 (v := nI 19) (by decide) ?_
  refine a_ialdN dX10_gives_21 rfl (j := 19) rfl (by decide) (by decide) ?_
  refine a_iconst dX10_gives_22 (v := nI 1) (by decide) ?_
  refine a_iload_n dX10_gives_23 rfl ?_
  refine a_ishl dX10_gives_24 ?_
  refine a_iconst dX10_gives_25 (v := (-1 : Int32)) (by decide) ?_
  refine a_ixor dX10_gives_26 ?_
  refine a_iand dX10_gives_27 ?_
  refine a_iastN dX10_gives_28 rfl (j := 19) rfl (by decide) (by decide) ?_
  refine a_aload_n dX10_gives_29 rfl ?_
  refine a_iload_n dX10_gives_30 rfl ?_
  refine a_iload_n dX10_gives_31 rfl ?_
  exact a_callV2 dX10_gives_32 (dh_Y_up cY_RX10_173 (by decide)) rfl rfl (Nat.le_of_ble_eq_true rfl) k
theorem e_X10_gives {G : dh_G} {x1 x2 : Int32} {h : dh_H} {Q : Option Value → dh_H → Prop} (k : (vp_in ((nI 1) + x2) 32) ∧ dh_C G mX10_takes [.ref 61, .int (x2), .int (x1)] (dh_s (dh_s h 68 ((nI 1) + x2).toNatClampNeg x1) 68 19 (((dh_s h 68 ((nI 1) + x2).toNatClampNeg x1) 68 19) &&& (((nI 1) <<< (x1 &&& 31)) ^^^ (-1 : Int32)))) (fun v h1 => dh_J G mX10_gives 35 [some (.ref 61), some (.int (x1)), some (.int (x2))] (v.toList ++ []) h1 Q)) : dh_C G mX10_gives [.ref 61, .int (x1), .int (x2)] h Q := dh_C_of [some (.ref 61), some (.int (x1)), some (.int (x2))] (by decide) (Nat.le_of_ble_eq_true rfl) rfl (w_X10_gives_0 k)
set_option maxRecDepth 100000 in
theorem w_X10_gives_35 {G : dh_G} {x1 x2 s0 : Int32} {h : dh_H} {Q : Option Value → dh_H → Prop} (k : ((¬ s0 = 0) → (vp_in ((nI 26) + x1) 32) ∧ dh_C G mX10_coldOnes [.ref 61] h (fun v h1 => dh_J G mX10_gives 53 [some (.ref 61), some (.int (x1)), some (.int (x2))] (v.toList ++ [.int (h 68 ((nI 26) + x1).toNatClampNeg)]) h1 Q)) ∧ ((s0 = 0) → Q (some (.int (nI 0))) h)) : dh_J G mX10_gives 35 [some (.ref 61), some (.int (x1)), some (.int (x2))] [.int (s0)] h Q := by
  refine a_if_ne 40 dX10_gives_35 (by decide) (fun c1 => ?_) (fun c1 => ?_)
  · replace k := k.1 c1
    refine a_aload_n dX10_gives_40 rfl ?_
    refine a_getR dX10_gives_41 fF_RX10_32 rfl rfl ?_
    refine a_bipush dX10_gives_44 (v := nI 26) (by decide) ?_
    refine a_iload_n dX10_gives_46 rfl ?_
    refine a_iadd dX10_gives_47 ?_
    obtain ⟨e2, k⟩ := k
    refine a_iald dX10_gives_48 rfl e2 ?_
    refine a_aload_n dX10_gives_49 rfl ?_
    exact a_callV0 dX10_gives_50 (dh_Y_up cY_RX10_183 (by decide)) rfl rfl (Nat.le_of_ble_eq_true rfl) k
  · replace k := k.2 c1
    refine a_iconst dX10_gives_38 (v := nI 0) (by decide) ?_
    exact a_zret dX10_gives_39 rfl (by decide) k
set_option maxRecDepth 100000 in
theorem w_X10_gives_53 {G : dh_G} {x1 x2 s0 s1 : Int32} {h : dh_H} {Q : Option Value → dh_H → Prop} (k : (((s0 &&& s1) = 0) → (vp_in ((nI 26) + x1) 32) ∧ (vp_in ((nI 26) + x1) 32) ∧ Q (some (.int (nI 1))) (dh_s h 68 ((nI 26) + x1).toNatClampNeg ((h 68 ((nI 26) + x1).toNatClampNeg) ||| ((nI 1) <<< (x2 &&& 31))))) ∧ ((¬ (s0 &&& s1) = 0) → (vp_in ((nI 7) + x2) 32) ∧ ((¬ (h 68 ((nI 7) + x2).toNatClampNeg) = 0) → (vp_in ((nI 26) + x1) 32) ∧ (vp_in ((nI 26) + x1) 32) ∧ Q (some (.int (nI 1))) (dh_s h 68 ((nI 26) + x1).toNatClampNeg ((h 68 ((nI 26) + x1).toNatClampNeg) ||| ((nI 1) <<< (x2 &&& 31))))) ∧ (((h 68 ((nI 7) + x2).toNatClampNeg) = 0) → (vp_in ((nI 7) + x2) 32) ∧ (vp_in ((nI 26) + x1) 32) ∧ (vp_in ((nI 26) + x1) 32) ∧ Q (some (.int (nI 1))) (dh_s (dh_s h 68 ((nI 7) + x2).toNatClampNeg (h 61 17)) 68 ((nI 26) + x1).toNatClampNeg (((dh_s h 68 ((nI 7) + x2).toNatClampNeg (h 61 17)) 68 ((nI 26) + x1).toNatClampNeg) ||| ((nI 1) <<< (x2 &&& 31))))))) : dh_J G mX10_gives 53 [some (.ref 61), some (.int (x1)), some (.int (x2))] [.int (s1), .int (s0)] h Q := by
  refine a_iand dX10_gives_53 ?_
  refine a_if_eq 82 dX10_gives_54 (by decide) (fun c1 => ?_) (fun c1 => ?_)
  · replace k := k.1 c1
    refine a_aload_n dX10_gives_82 rfl ?_
    refine a_getR dX10_gives_83 fF_RX10_32 rfl rfl ?_
    refine a_bipush dX10_gives_86 (v := nI 26) (by decide) ?_
    refine a_iload_n dX10_gives_88 rfl ?_
    refine a_iadd dX10_gives_89 ?_
    refine a_aload_n dX10_gives_90 rfl ?_
    refine a_getR dX10_gives_91 fF_RX10_32 rfl rfl ?_
    refine a_bipush dX10_gives_94 (v := nI 26) (by decide) ?_
    refine a_iload_n dX10_gives_96 rfl ?_
    refine a_iadd dX10_gives_97 ?_
    obtain ⟨e2, k⟩ := k
    refine a_iald dX10_gives_98 rfl e2 ?_
    refine a_iconst dX10_gives_99 (v := nI 1) (by decide) ?_
    refine a_iload_n dX10_gives_100 rfl ?_
    refine a_ishl dX10_gives_101 ?_
    refine a_ior dX10_gives_102 ?_
    obtain ⟨e3, k⟩ := k
    refine a_iast dX10_gives_103 rfl e3 ?_
    refine a_iconst dX10_gives_104 (v := nI 1) (by decide) ?_
    exact a_zret dX10_gives_105 rfl (by decide) k
  · replace k := k.2 c1
    refine a_aload_n dX10_gives_57 rfl ?_
    refine a_getR dX10_gives_58 fF_RX10_32 rfl rfl ?_
    refine a_bipush dX10_gives_61 (v := nI 7) (by decide) ?_
    refine a_iload_n dX10_gives_63 rfl ?_
    refine a_iadd dX10_gives_64 ?_
    obtain ⟨e4, k⟩ := k
    refine a_iald dX10_gives_65 rfl e4 ?_
    refine a_if_ne 82 dX10_gives_66 (by decide) (fun c5 => ?_) (fun c5 => ?_)
    · replace k := k.1 c5
      refine a_aload_n dX10_gives_82 rfl ?_
      refine a_getR dX10_gives_83 fF_RX10_32 rfl rfl ?_
      refine a_bipush dX10_gives_86 (v := nI 26) (by decide) ?_
      refine a_iload_n dX10_gives_88 rfl ?_
      refine a_iadd dX10_gives_89 ?_
      refine a_aload_n dX10_gives_90 rfl ?_
      refine a_getR dX10_gives_91 fF_RX10_32 rfl rfl ?_
      refine a_bipush dX10_gives_94 (v := nI 26) (by decide) ?_
      refine a_iload_n dX10_gives_96 rfl ?_
      refine a_iadd dX10_gives_97 ?_
      obtain ⟨e6, k⟩ := k
      refine a_iald dX10_gives_98 rfl e6 ?_
      refine a_iconst dX10_gives_99 (v := nI 1) (by decide) ?_
      refine a_iload_n dX10_gives_100 rfl ?_
      refine a_ishl dX10_gives_101 ?_
      refine a_ior dX10_gives_102 ?_
      obtain ⟨e7, k⟩ := k
      refine a_iast dX10_gives_103 rfl e7 ?_
      refine a_iconst dX10_gives_104 (v := nI 1) (by decide) ?_
      exact a_zret dX10_gives_105 rfl (by decide) k
    · replace k := k.2 c5
      refine a_aload_n dX10_gives_69 rfl ?_
      refine a_getR dX10_gives_70 fF_RX10_32 rfl rfl ?_
      refine a_bipush dX10_gives_73 (v := nI 7) (by decide) ?_
      refine a_iload_n dX10_gives_75 rfl ?_
      refine a_iadd dX10_gives_76 ?_
      refine a_aload_n dX10_gives_77 rfl ?_
      refine a_getI dX10_gives_78 fF_RX10_151 rfl rfl ?_
      obtain ⟨e8, k⟩ := k
      refine a_iast dX10_gives_81 rfl e8 ?_
      refine a_aload_n dX10_gives_82 rfl ?_
      refine a_getR dX10_gives_83 fF_RX10_32 rfl rfl ?_
      refine a_bipush dX10_gives_86 (v := nI 26) (by decide) ?_
      refine a_iload_n dX10_gives_88 rfl ?_
      refine a_iadd dX10_gives_89 ?_
      refine a_aload_n dX10_gives_90 rfl ?_
      refine a_getR dX10_gives_91 fF_RX10_32 rfl rfl ?_
      refine a_bipush dX10_gives_94 (v := nI 26) (by decide) ?_
      refine a_iload_n dX10_gives_96 rfl ?_
      refine a_iadd dX10_gives_97 ?_
      obtain ⟨e9, k⟩ := k
      refine a_iald dX10_gives_98 rfl e9 ?_
      refine a_iconst dX10_gives_99 (v := nI 1) (by decide) ?_
      refine a_iload_n dX10_gives_100 rfl ?_
      refine a_ishl dX10_gives_101 ?_
      refine a_ior dX10_gives_102 ?_
      obtain ⟨e10, k⟩ := k
      refine a_iast dX10_gives_103 rfl e10 ?_
      refine a_iconst dX10_gives_104 (v := nI 1) (by decide) ?_
      exact a_zret dX10_gives_105 rfl (by decide) k
set_option maxRecDepth 100000 in
theorem w_X10_give_0 {G : dh_G} {x1 x2 : Int32} {h : dh_H} {Q : Option Value → dh_H → Prop} (k : dh_C G mX10_isDummy [.ref 61, .int (x1)] h (fun v h1 => dh_J G mX10_give 5 [some (.ref 61), some (.int (x1)), some (.int (x2))] (v.toList ++ []) h1 Q)) : dh_J G mX10_give 0 [some (.ref 61), some (.int (x1)), some (.int (x2))] [] h Q := by
  refine a_aload_n dX10_give_0 rfl ?_
  refine a_iload_n dX10_give_1 rfl ?_
  exact a_callV1 dX10_give_2 (dh_Y_up cY_RX10_193 (by decide)) rfl rfl (Nat.le_of_ble_eq_true rfl) k
theorem e_X10_give {G : dh_G} {x1 x2 : Int32} {h : dh_H} {Q : Option Value → dh_H → Prop} (k : dh_C G mX10_isDummy [.ref 61, .int (x1)] h (fun v h1 => dh_J G mX10_give 5 [some (.ref 61), some (.int (x1)), some (.int (x2))] (v.toList ++ []) h1 Q)) : dh_C G mX10_give [.ref 61, .int (x1), .int (x2)] h Q := dh_C_of [some (.ref 61), some (.int (x1)), some (.int (x2))] (by decide) (Nat.le_of_ble_eq_true rfl) rfl (w_X10_give_0 k)
set_option maxRecDepth 100000 in
theorem w_X10_give_5 {G : dh_G} {x1 x2 s0 : Int32} {h : dh_H} {Q : Option Value → dh_H → Prop} (k : ((s0 = 0) → Q (some (.int ((-1000000001 : Int32)))) h) ∧ ((¬ s0 = 0) → dh_C G mX10_isChild [.ref 61, .int (x2)] h (fun v h1 => dh_J G mX10_give 13 [some (.ref 61), some (.int (x1)), some (.int (x2))] (v.toList ++ []) h1 Q))) : dh_J G mX10_give 5 [some (.ref 61), some (.int (x1)), some (.int (x2))] [.int (s0)] h Q := by
  refine a_if_eq 16 dX10_give_5 (by decide) (fun c1 => ?_) (fun c1 => ?_)
  · replace k := k.1 c1
    refine a_ldc dX10_give_16 (v := (-1000000001 : Int32)) kK_RX10_192 ?_
    exact a_iret dX10_give_18 rfl k
  · replace k := k.2 c1
    refine a_aload_n dX10_give_8 rfl ?_
    refine a_iload_n dX10_give_9 rfl ?_
    exact a_callV1 dX10_give_10 (dh_Y_up cY_RX10_189 (by decide)) rfl rfl (Nat.le_of_ble_eq_true rfl) k
set_option maxRecDepth 100000 in
theorem w_X10_give_13 {G : dh_G} {x1 x2 s0 : Int32} {h : dh_H} {Q : Option Value → dh_H → Prop} (k : ((¬ s0 = 0) → dh_C G mX10_canGive [.ref 61, .int (x1), .int (x2)] h (fun v h1 => dh_J G mX10_give 25 [some (.ref 61), some (.int (x1)), some (.int (x2))] (v.toList ++ []) h1 Q)) ∧ ((s0 = 0) → Q (some (.int ((-1000000001 : Int32)))) h)) : dh_J G mX10_give 13 [some (.ref 61), some (.int (x1)), some (.int (x2))] [.int (s0)] h Q := by
  refine a_if_ne 19 dX10_give_13 (by decide) (fun c1 => ?_) (fun c1 => ?_)
  · replace k := k.1 c1
    refine a_aload_n dX10_give_19 rfl ?_
    refine a_iload_n dX10_give_20 rfl ?_
    refine a_iload_n dX10_give_21 rfl ?_
    exact a_callV2 dX10_give_22 (dh_Y_up cY_RX10_213 (by decide)) rfl rfl (Nat.le_of_ble_eq_true rfl) k
  · replace k := k.2 c1
    refine a_ldc dX10_give_16 (v := (-1000000001 : Int32)) kK_RX10_192 ?_
    exact a_iret dX10_give_18 rfl k
set_option maxRecDepth 100000 in
theorem w_X10_give_25 {G : dh_G} {x1 x2 s0 : Int32} {h : dh_H} {Q : Option Value → dh_H → Prop} (k : ((¬ s0 = 0) → dh_C G mX10_note [.ref 61] h (fun v h1 => dh_J G mX10_give 35 [some (.ref 61), some (.int (x1)), some (.int (x2))] (v.toList ++ []) h1 Q)) ∧ ((s0 = 0) → Q (some (.int ((-1000000003 : Int32)))) h)) : dh_J G mX10_give 25 [some (.ref 61), some (.int (x1)), some (.int (x2))] [.int (s0)] h Q := by
  refine a_if_ne 31 dX10_give_25 (by decide) (fun c1 => ?_) (fun c1 => ?_)
  · replace k := k.1 c1
    refine a_aload_n dX10_give_31 rfl ?_
    exact a_callV0 dX10_give_32 (dh_Y_up cY_RX10_207 (by decide)) rfl rfl (Nat.le_of_ble_eq_true rfl) k
  · replace k := k.2 c1
    refine a_ldc dX10_give_28 (v := (-1000000003 : Int32)) kK_RX10_203 ?_
    exact a_iret dX10_give_30 rfl k
set_option maxRecDepth 100000 in
theorem w_X10_give_35 {G : dh_G} {x1 x2 : Int32} {h : dh_H} {Q : Option Value → dh_H → Prop} (k : dh_C G mX10_gives [.ref 61, .int (x1), .int (x2)] h (fun v h1 => dh_J G mX10_give 41 [none, none, none] (v.toList ++ []) h1 Q)) : dh_J G mX10_give 35 [some (.ref 61), some (.int (x1)), some (.int (x2))] [] h Q := by
  refine a_aload_n dX10_give_35 rfl ?_
  refine a_iload_n dX10_give_36 rfl ?_
  refine a_iload_n dX10_give_37 rfl ?_
  refine dh_drop 0 ?_
  refine dh_drop 1 ?_
  refine dh_drop 2 ?_
  exact a_callV2 dX10_give_38 (dh_Y_up cY_RX10_216 (by decide)) rfl rfl (Nat.le_of_ble_eq_true rfl) k
set_option maxRecDepth 100000 in
theorem w_X10_give_41 {G : dh_G} {s0 : Int32} {h : dh_H} {Q : Option Value → dh_H → Prop} (k : ((s0 = 0) → Q (some (.int (nI 0))) h) ∧ ((¬ s0 = 0) → Q (some (.int (nI 1))) h)) : dh_J G mX10_give 41 [none, none, none] [.int (s0)] h Q := by
  refine a_if_eq 48 dX10_give_41 (by decide) (fun c1 => ?_) (fun c1 => ?_)
  · replace k := k.1 c1
    refine a_iconst dX10_give_48 (v := nI 0) (by decide) ?_
    exact a_iret dX10_give_49 rfl k
  · replace k := k.2 c1
    refine a_iconst dX10_give_44 (v := nI 1) (by decide) ?_
    refine a_goto 49 dX10_give_45 (by decide) ?_
    exact a_iret dX10_give_49 rfl k
set_option maxRecDepth 100000 in
theorem w_X10_drops_0 {G : dh_G} {x1 : Int32} {h : dh_H} {Q : Option Value → dh_H → Prop} (k : dh_C G mX10_holderOf [.ref 61, .int (x1)] h (fun v h1 => dh_J G mX10_drops 10 [some (.ref 61), some (.int (x1))] (v.toList ++ [.int (nI 1), .ref 68]) h1 Q)) : dh_J G mX10_drops 0 [some (.ref 61), some (.int (x1))] [] h Q := by
  refine a_aload_n dX10_drops_0 rfl ?_
  refine a_getR dX10_drops_1 fF_RX10_32 rfl rfl ?_
  refine a_iconst dX10_drops_4 (v := nI 1) (by decide) ?_
  refine a_aload_n dX10_drops_5 rfl ?_
  refine a_iload_n dX10_drops_6 rfl ?_
  exact a_callV1 dX10_drops_7 (dh_Y_up cY_RX10_196 (by decide)) rfl rfl (Nat.le_of_ble_eq_true rfl) k
theorem e_X10_drops {G : dh_G} {x1 : Int32} {h : dh_H} {Q : Option Value → dh_H → Prop} (k : dh_C G mX10_holderOf [.ref 61, .int (x1)] h (fun v h1 => dh_J G mX10_drops 10 [some (.ref 61), some (.int (x1))] (v.toList ++ [.int (nI 1), .ref 68]) h1 Q)) : dh_C G mX10_drops [.ref 61, .int (x1)] h Q := dh_C_of [some (.ref 61), some (.int (x1))] (by decide) (Nat.le_of_ble_eq_true rfl) rfl (w_X10_drops_0 k)
set_option maxRecDepth 100000 in
theorem w_X10_drops_10 {G : dh_G} {x1 s1 s2 : Int32} {h : dh_H} {Q : Option Value → dh_H → Prop} (k : (vp_in (s1 + s2) 32) ∧ Q none (dh_s (dh_s h 68 (s1 + s2).toNatClampNeg (-1 : Int32)) 68 19 (((dh_s h 68 (s1 + s2).toNatClampNeg (-1 : Int32)) 68 19) ||| ((nI 1) <<< (x1 &&& 31))))) : dh_J G mX10_drops 10 [some (.ref 61), some (.int (x1))] [.int (s2), .int (s1), .ref 68] h Q := by
  refine a_iadd dX10_drops_10 ?_
  refine a_iconst dX10_drops_11 (v := (-1 : Int32)) (by decide) ?_
  obtain ⟨e1, k⟩ := k
  refine a_iast dX10_drops_12 rfl e1 ?_
  refine a_aload_n dX10_drops_13 rfl ?_
  refine a_getR dX10_drops_14 fF_RX10_32 rfl rfl ?_
  refine a_bipush dX10_drops_17 (v := nI 19) (by decide) ?_
  refine a_aload_n dX10_drops_19 rfl ?_
  refine a_getR dX10_drops_20 fF_RX10_32 rfl rfl ?_
  refine a_bipush dX10_drops_23 (v := nI 19) (by decide) ?_
  refine a_ialdN dX10_drops_25 rfl (j := 19) rfl (by decide) (by decide) ?_
  refine a_iconst dX10_drops_26 (v := nI 1) (by decide) ?_
  refine a_iload_n dX10_drops_27 rfl ?_
  refine a_ishl dX10_drops_28 ?_
  refine a_ior dX10_drops_29 ?_
  refine a_iastN dX10_drops_30 rfl (j := 19) rfl (by decide) (by decide) ?_
  exact a_vret dX10_drops_31 rfl k
set_option maxRecDepth 100000 in
theorem w_X10_drop_0 {G : dh_G} {x1 : Int32} {h : dh_H} {Q : Option Value → dh_H → Prop} (k : dh_C G mX10_isDummy [.ref 61, .int (x1)] h (fun v h1 => dh_J G mX10_drop 5 [some (.ref 61), some (.int (x1)), none] (v.toList ++ []) h1 Q)) : dh_J G mX10_drop 0 [some (.ref 61), some (.int (x1)), none] [] h Q := by
  refine a_aload_n dX10_drop_0 rfl ?_
  refine a_iload_n dX10_drop_1 rfl ?_
  exact a_callV1 dX10_drop_2 (dh_Y_up cY_RX10_193 (by decide)) rfl rfl (Nat.le_of_ble_eq_true rfl) k
theorem e_X10_drop {G : dh_G} {x1 : Int32} {h : dh_H} {Q : Option Value → dh_H → Prop} (k : dh_C G mX10_isDummy [.ref 61, .int (x1)] h (fun v h1 => dh_J G mX10_drop 5 [some (.ref 61), some (.int (x1)), none] (v.toList ++ []) h1 Q)) : dh_C G mX10_drop [.ref 61, .int (x1)] h Q := dh_C_of [some (.ref 61), some (.int (x1)), none] (by decide) (Nat.le_of_ble_eq_true rfl) rfl (w_X10_drop_0 k)
set_option maxRecDepth 100000 in
theorem w_X10_drop_5 {G : dh_G} {x1 s0 : Int32} {h : dh_H} {Q : Option Value → dh_H → Prop} (k : ((¬ s0 = 0) → dh_C G mX10_holderOf [.ref 61, .int (x1)] h (fun v h1 => dh_J G mX10_drop 16 [some (.ref 61), some (.int (x1)), none] (v.toList ++ []) h1 Q)) ∧ ((s0 = 0) → Q (some (.int ((-1000000001 : Int32)))) h)) : dh_J G mX10_drop 5 [some (.ref 61), some (.int (x1)), none] [.int (s0)] h Q := by
  refine a_if_ne 11 dX10_drop_5 (by decide) (fun c1 => ?_) (fun c1 => ?_)
  · replace k := k.1 c1
    refine a_aload_n dX10_drop_11 rfl ?_
    refine a_iload_n dX10_drop_12 rfl ?_
    exact a_callV1 dX10_drop_13 (dh_Y_up cY_RX10_196 (by decide)) rfl rfl (Nat.le_of_ble_eq_true rfl) k
  · replace k := k.2 c1
    refine a_ldc dX10_drop_8 (v := (-1000000001 : Int32)) kK_RX10_192 ?_
    exact a_iret dX10_drop_10 rfl k
set_option maxRecDepth 100000 in
theorem w_X10_drop_16 {G : dh_G} {x1 s0 : Int32} {h : dh_H} {Q : Option Value → dh_H → Prop} (k : ((¬ s0 = (-1 : Int32)) → dh_C G mX10_note [.ref 61] h (fun v h1 => dh_J G mX10_drop 29 [some (.ref 61), some (.int (x1)), some (.int (s0))] (v.toList ++ []) h1 Q)) ∧ ((s0 = (-1 : Int32)) → Q (some (.int ((-1000000003 : Int32)))) h)) : dh_J G mX10_drop 16 [some (.ref 61), some (.int (x1)), none] [.int (s0)] h Q := by
  refine a_istore_n dX10_drop_16 (by decide) rfl ?_
  refine a_iload_n dX10_drop_17 rfl ?_
  refine a_iconst dX10_drop_18 (v := (-1 : Int32)) (by decide) ?_
  refine a_icmp_ne 25 dX10_drop_19 (by decide) (fun c1 => ?_) (fun c1 => ?_)
  · replace k := k.1 c1
    refine a_aload_n dX10_drop_25 rfl ?_
    exact a_callV0 dX10_drop_26 (dh_Y_up cY_RX10_207 (by decide)) rfl rfl (Nat.le_of_ble_eq_true rfl) k
  · replace k := k.2 c1
    refine a_ldc dX10_drop_22 (v := (-1000000003 : Int32)) kK_RX10_203 ?_
    exact a_iret dX10_drop_24 rfl k
set_option maxRecDepth 100000 in
theorem w_X10_drop_29 {G : dh_G} {x1 x2 : Int32} {h : dh_H} {Q : Option Value → dh_H → Prop} (k : dh_C G mX10_drops [.ref 61, .int (x1)] h (fun v h1 => dh_J G mX10_drop 34 [none, none, some (.int (x2))] (v.toList ++ []) h1 Q)) : dh_J G mX10_drop 29 [some (.ref 61), some (.int (x1)), some (.int (x2))] [] h Q := by
  refine a_aload_n dX10_drop_29 rfl ?_
  refine a_iload_n dX10_drop_30 rfl ?_
  refine dh_drop 0 ?_
  refine dh_drop 1 ?_
  exact a_callV1 dX10_drop_31 (dh_Y_up cY_RX10_219 (by decide)) rfl rfl (Nat.le_of_ble_eq_true rfl) k
set_option maxRecDepth 100000 in
theorem w_X10_drop_34 {G : dh_G} {x2 : Int32} {h : dh_H} {Q : Option Value → dh_H → Prop} (k : Q (some (.int (x2))) h) : dh_J G mX10_drop 34 [none, none, some (.int (x2))] [] h Q := by
  refine a_iload_n dX10_drop_34 rfl ?_
  exact a_iret dX10_drop_35 rfl k
set_option maxRecDepth 100000 in
theorem w_X10_pick_0 {G : dh_G} {x1 : Int32} {h : dh_H} {Q : Option Value → dh_H → Prop} (k : dh_C G mX10_isDummy [.ref 61, .int (x1)] h (fun v h1 => dh_J G mX10_pick 5 [some (.ref 61), some (.int (x1))] (v.toList ++ []) h1 Q)) : dh_J G mX10_pick 0 [some (.ref 61), some (.int (x1))] [] h Q := by
  refine a_aload_n dX10_pick_0 rfl ?_
  refine a_iload_n dX10_pick_1 rfl ?_
  exact a_callV1 dX10_pick_2 (dh_Y_up cY_RX10_193 (by decide)) rfl rfl (Nat.le_of_ble_eq_true rfl) k
theorem e_X10_pick {G : dh_G} {x1 : Int32} {h : dh_H} {Q : Option Value → dh_H → Prop} (k : dh_C G mX10_isDummy [.ref 61, .int (x1)] h (fun v h1 => dh_J G mX10_pick 5 [some (.ref 61), some (.int (x1))] (v.toList ++ []) h1 Q)) : dh_C G mX10_pick [.ref 61, .int (x1)] h Q := dh_C_of [some (.ref 61), some (.int (x1))] (by decide) (Nat.le_of_ble_eq_true rfl) rfl (w_X10_pick_0 k)
set_option maxRecDepth 100000 in
theorem w_X10_pick_5 {G : dh_G} {x1 s0 : Int32} {h : dh_H} {Q : Option Value → dh_H → Prop} (k : ((¬ s0 = 0) → dh_C G mX10_has [.int (h 68 19), .int (x1)] h (fun v h1 => dh_J G mX10_pick 22 [some (.ref 61), some (.int (x1))] (v.toList ++ []) h1 Q)) ∧ ((s0 = 0) → Q (some (.int ((-1000000001 : Int32)))) h)) : dh_J G mX10_pick 5 [some (.ref 61), some (.int (x1))] [.int (s0)] h Q := by
  refine a_if_ne 11 dX10_pick_5 (by decide) (fun c1 => ?_) (fun c1 => ?_)
  · replace k := k.1 c1
    refine a_aload_n dX10_pick_11 rfl ?_
    refine a_getR dX10_pick_12 fF_RX10_32 rfl rfl ?_
    refine a_bipush dX10_pick_15 (v := nI 19) (by decide) ?_
    refine a_ialdN dX10_pick_17 rfl (j := 19) rfl (by decide) (by decide) ?_
    refine a_iload_n dX10_pick_18 rfl ?_
    exact a_callS2 dX10_pick_19 (dh_Y_up cY_RX10_200 (by decide)) (Nat.le_of_ble_eq_true rfl) k
  · replace k := k.2 c1
    refine a_ldc dX10_pick_8 (v := (-1000000001 : Int32)) kK_RX10_192 ?_
    exact a_iret dX10_pick_10 rfl k
set_option maxRecDepth 100000 in
theorem w_X10_pick_22 {G : dh_G} {x1 s0 : Int32} {h : dh_H} {Q : Option Value → dh_H → Prop} (k : ((¬ s0 = 0) → dh_C G mX10_note [.ref 61] h (fun v h1 => dh_J G mX10_pick 32 [some (.ref 61), some (.int (x1))] (v.toList ++ []) h1 Q)) ∧ ((s0 = 0) → Q (some (.int ((-1000000003 : Int32)))) h)) : dh_J G mX10_pick 22 [some (.ref 61), some (.int (x1))] [.int (s0)] h Q := by
  refine a_if_ne 28 dX10_pick_22 (by decide) (fun c1 => ?_) (fun c1 => ?_)
  · replace k := k.1 c1
    refine a_aload_n dX10_pick_28 rfl ?_
    exact a_callV0 dX10_pick_29 (dh_Y_up cY_RX10_207 (by decide)) rfl rfl (Nat.le_of_ble_eq_true rfl) k
  · replace k := k.2 c1
    refine a_ldc dX10_pick_25 (v := (-1000000003 : Int32)) kK_RX10_203 ?_
    exact a_iret dX10_pick_27 rfl k
set_option maxRecDepth 100000 in
theorem w_X10_pick_32 {G : dh_G} {x1 : Int32} {h : dh_H} {Q : Option Value → dh_H → Prop} (k : Q (some (.int ((h 68 19) &&& (((nI 1) <<< (x1 &&& 31)) ^^^ (-1 : Int32))))) (dh_s h 68 19 ((h 68 19) &&& (((nI 1) <<< (x1 &&& 31)) ^^^ (-1 : Int32))))) : dh_J G mX10_pick 32 [some (.ref 61), some (.int (x1))] [] h Q := by
  refine a_aload_n dX10_pick_32 rfl ?_
  refine a_getR dX10_pick_33 fF_RX10_32 rfl rfl ?_
  refine a_bipush dX10_pick_36 (v := nI 19) (by decide) ?_
  refine a_aload_n dX10_pick_38 rfl ?_
  refine a_getR dX10_pick_39 fF_RX10_32 rfl rfl ?_
  refine a_bipush dX10_pick_42 (v := nI 19) (by decide) ?_
  refine a_ialdN dX10_pick_44 rfl (j := 19) rfl (by decide) (by decide) ?_
  refine a_iconst dX10_pick_45 (v := nI 1) (by decide) ?_
  refine a_iload_n dX10_pick_46 rfl ?_
  refine a_ishl dX10_pick_47 ?_
  refine a_iconst dX10_pick_48 (v := (-1 : Int32)) (by decide) ?_
  refine a_ixor dX10_pick_49 ?_
  refine a_iand dX10_pick_50 ?_
  refine a_iastN dX10_pick_51 rfl (j := 19) rfl (by decide) (by decide) ?_
  refine a_aload_n dX10_pick_52 rfl ?_
  refine a_getR dX10_pick_53 fF_RX10_32 rfl rfl ?_
  refine a_bipush dX10_pick_56 (v := nI 19) (by decide) ?_
  refine a_ialdN dX10_pick_58 rfl (j := 19) rfl (by decide) (by decide) ?_
  exact a_iret dX10_pick_59 rfl k
set_option maxRecDepth 100000 in
theorem w_X10_boil_0 {G : dh_G} {h : dh_H} {Q : Option Value → dh_H → Prop} (k : dh_J G mX10_boil 4 [some (.ref 61), some (.int (nI 0)), some (.int (nI 0))] [] h Q) : dh_J G mX10_boil 0 [some (.ref 61), none, none] [] h Q := by
  refine a_iconst dX10_boil_0 (v := nI 0) (by decide) ?_
  refine a_istore_n dX10_boil_1 (by decide) rfl ?_
  refine a_iconst dX10_boil_2 (v := nI 0) (by decide) ?_
  refine a_istore_n dX10_boil_3 (by decide) rfl ?_
  exact k
theorem e_X10_boil {G : dh_G} {h : dh_H} {Q : Option Value → dh_H → Prop} (k : dh_J G mX10_boil 4 [some (.ref 61), some (.int (nI 0)), some (.int (nI 0))] [] h Q) : dh_C G mX10_boil [.ref 61] h Q := dh_C_of [some (.ref 61), none, none] (by decide) (Nat.le_of_ble_eq_true rfl) rfl (w_X10_boil_0 k)
set_option maxRecDepth 100000 in
theorem w_X10_boil_4 {G : dh_G} {x1 x2 : Int32} {h : dh_H} {Q : Option Value → dh_H → Prop} (k : (((h 61 20) ≤ x2) → ((¬ x1 = 0) → dh_C G mX10_note [.ref 61] h (fun v h1 => dh_J G mX10_boil 62 [some (.ref 61), some (.int (x1)), none] (v.toList ++ []) h1 Q)) ∧ ((x1 = 0) → Q (some (.int ((-1000000003 : Int32)))) h)) ∧ ((¬ (h 61 20) ≤ x2) → dh_C G mX10_has [.int (h 68 19), .int (x2)] h (fun v h1 => dh_J G mX10_boil 24 [some (.ref 61), none, some (.int (x2))] (v.toList ++ [.int (x1)]) h1 Q))) : dh_J G mX10_boil 4 [some (.ref 61), some (.int (x1)), some (.int (x2))] [] h Q := by
  refine a_iload_n dX10_boil_4 rfl ?_
  refine a_aload_n dX10_boil_5 rfl ?_
  refine a_getI dX10_boil_6 fF_RX10_73 rfl rfl ?_
  refine a_icmp_ge 51 dX10_boil_9 (by decide) (fun c1 => ?_) (fun c1 => ?_)
  · replace k := k.1 c1
    refine a_iload_n dX10_boil_51 rfl ?_
    refine a_if_ne 58 dX10_boil_52 (by decide) (fun c2 => ?_) (fun c2 => ?_)
    · replace k := k.1 c2
      refine a_aload_n dX10_boil_58 rfl ?_
      refine dh_drop 2 ?_
      exact a_callV0 dX10_boil_59 (dh_Y_up cY_RX10_207 (by decide)) rfl rfl (Nat.le_of_ble_eq_true rfl) k
    · replace k := k.2 c2
      refine a_ldc dX10_boil_55 (v := (-1000000003 : Int32)) kK_RX10_203 ?_
      exact a_iret dX10_boil_57 rfl k
  · replace k := k.2 c1
    refine a_iload_n dX10_boil_12 rfl ?_
    refine a_aload_n dX10_boil_13 rfl ?_
    refine a_getR dX10_boil_14 fF_RX10_32 rfl rfl ?_
    refine a_bipush dX10_boil_17 (v := nI 19) (by decide) ?_
    refine a_ialdN dX10_boil_19 rfl (j := 19) rfl (by decide) (by decide) ?_
    refine a_iload_n dX10_boil_20 rfl ?_
    refine dh_drop 1 ?_
    exact a_callS2 dX10_boil_21 (dh_Y_up cY_RX10_200 (by decide)) (Nat.le_of_ble_eq_true rfl) k
set_option maxRecDepth 100000 in
theorem w_X10_boil_24 {G : dh_G} {x2 s0 s1 : Int32} {h : dh_H} {Q : Option Value → dh_H → Prop} (k : ((¬ s1 = 0) → dh_J G mX10_boil 4 [some (.ref 61), some (.int (s0 ||| (nI 0))), some (.int (x2 + (nI 1)))] [] h Q) ∧ ((s1 = 0) → dh_C G mX10_holderOf [.ref 61, .int (x2)] h (fun v h1 => dh_J G mX10_boil 32 [some (.ref 61), none, some (.int (x2))] (v.toList ++ [.int (s0)]) h1 Q))) : dh_J G mX10_boil 24 [some (.ref 61), none, some (.int (x2))] [.int (s1), .int (s0)] h Q := by
  refine a_if_ne 42 dX10_boil_24 (by decide) (fun c1 => ?_) (fun c1 => ?_)
  · replace k := k.1 c1
    refine a_iconst dX10_boil_42 (v := nI 0) (by decide) ?_
    refine a_ior dX10_boil_43 ?_
    refine a_istore_n dX10_boil_44 (by decide) rfl ?_
    refine a_iinc dX10_boil_45 (v := x2 + (nI 1)) rfl (by rfl) (by decide) rfl ?_
    refine a_goto 4 dX10_boil_48 (by decide) ?_
    exact k
  · replace k := k.2 c1
    refine a_aload_n dX10_boil_27 rfl ?_
    refine a_iload_n dX10_boil_28 rfl ?_
    exact a_callV1 dX10_boil_29 (dh_Y_up cY_RX10_196 (by decide)) rfl rfl (Nat.le_of_ble_eq_true rfl) k
set_option maxRecDepth 100000 in
theorem w_X10_boil_32 {G : dh_G} {x2 s0 s1 : Int32} {h : dh_H} {Q : Option Value → dh_H → Prop} (k : ((¬ s1 = (-1 : Int32)) → dh_J G mX10_boil 4 [some (.ref 61), some (.int (s0 ||| (nI 0))), some (.int (x2 + (nI 1)))] [] h Q) ∧ ((s1 = (-1 : Int32)) → dh_J G mX10_boil 4 [some (.ref 61), some (.int (s0 ||| ((nI 1) <<< (x2 &&& 31)))), some (.int (x2 + (nI 1)))] [] h Q)) : dh_J G mX10_boil 32 [some (.ref 61), none, some (.int (x2))] [.int (s1), .int (s0)] h Q := by
  refine a_iconst dX10_boil_32 (v := (-1 : Int32)) (by decide) ?_
  refine a_icmp_ne 42 dX10_boil_33 (by decide) (fun c1 => ?_) (fun c1 => ?_)
  · replace k := k.1 c1
    refine a_iconst dX10_boil_42 (v := nI 0) (by decide) ?_
    refine a_ior dX10_boil_43 ?_
    refine a_istore_n dX10_boil_44 (by decide) rfl ?_
    refine a_iinc dX10_boil_45 (v := x2 + (nI 1)) rfl (by rfl) (by decide) rfl ?_
    refine a_goto 4 dX10_boil_48 (by decide) ?_
    exact k
  · replace k := k.2 c1
    refine a_iconst dX10_boil_36 (v := nI 1) (by decide) ?_
    refine a_iload_n dX10_boil_37 rfl ?_
    refine a_ishl dX10_boil_38 ?_
    refine a_goto 43 dX10_boil_39 (by decide) ?_
    refine a_ior dX10_boil_43 ?_
    refine a_istore_n dX10_boil_44 (by decide) rfl ?_
    refine a_iinc dX10_boil_45 (v := x2 + (nI 1)) rfl (by rfl) (by decide) rfl ?_
    refine a_goto 4 dX10_boil_48 (by decide) ?_
    exact k
set_option maxRecDepth 100000 in
theorem w_X10_boil_62 {G : dh_G} {x1 : Int32} {h : dh_H} {Q : Option Value → dh_H → Prop} (k : dh_J G mX10_boil 64 [some (.ref 61), some (.int (x1)), some (.int (nI 0))] [] h Q) : dh_J G mX10_boil 62 [some (.ref 61), some (.int (x1)), none] [] h Q := by
  refine a_iconst dX10_boil_62 (v := nI 0) (by decide) ?_
  refine a_istore_n dX10_boil_63 (by decide) rfl ?_
  exact k
set_option maxRecDepth 100000 in
theorem w_X10_boil_64 {G : dh_G} {x1 x2 : Int32} {h : dh_H} {Q : Option Value → dh_H → Prop} (k : (((h 61 20) ≤ x2) → Q (some (.int (x1))) h) ∧ ((¬ (h 61 20) ≤ x2) → dh_C G mX10_has [.int (x1), .int (x2)] h (fun v h1 => dh_J G mX10_boil 85 [some (.ref 61), some (.int (x1)), some (.int (x2))] (v.toList ++ [.int ((nI 26) + x2), .ref 68]) h1 Q))) : dh_J G mX10_boil 64 [some (.ref 61), some (.int (x1)), some (.int (x2))] [] h Q := by
  refine a_iload_n dX10_boil_64 rfl ?_
  refine a_aload_n dX10_boil_65 rfl ?_
  refine a_getI dX10_boil_66 fF_RX10_73 rfl rfl ?_
  refine a_icmp_ge 133 dX10_boil_69 (by decide) (fun c1 => ?_) (fun c1 => ?_)
  · replace k := k.1 c1
    refine a_iload_n dX10_boil_133 rfl ?_
    exact a_iret dX10_boil_134 rfl k
  · replace k := k.2 c1
    refine a_aload_n dX10_boil_72 rfl ?_
    refine a_getR dX10_boil_73 fF_RX10_32 rfl rfl ?_
    refine a_bipush dX10_boil_76 (v := nI 26) (by decide) ?_
    refine a_iload_n dX10_boil_78 rfl ?_
    refine a_iadd dX10_boil_79 ?_
    refine a_iload_n dX10_boil_80 rfl ?_
    refine a_iload_n dX10_boil_81 rfl ?_
    exact a_callS2 dX10_boil_82 (dh_Y_up cY_RX10_200 (by decide)) (Nat.le_of_ble_eq_true rfl) k
set_option maxRecDepth 100000 in
theorem w_X10_boil_85 {G : dh_G} {x1 x2 s1 s2 : Int32} {h : dh_H} {Q : Option Value → dh_H → Prop} (k : ((s2 = 0) → (vp_in ((nI 26) + x2) 32) ∧ (vp_in s1 32) ∧ (vp_in ((nI 20) + x2) 32) ∧ dh_C G mX10_has [.int (x1), .int (x2)] (dh_s h 68 s1.toNatClampNeg (h 68 ((nI 26) + x2).toNatClampNeg)) (fun v h1 => dh_J G mX10_boil 117 [some (.ref 61), some (.int (x1)), some (.int (x2))] (v.toList ++ [.int ((dh_s h 68 s1.toNatClampNeg (h 68 ((nI 26) + x2).toNatClampNeg)) 68 ((nI 20) + x2).toNatClampNeg), .int ((nI 20) + x2), .ref 68]) h1 Q)) ∧ ((¬ s2 = 0) → (vp_in s1 32) ∧ (vp_in ((nI 20) + x2) 32) ∧ dh_C G mX10_has [.int (x1), .int (x2)] (dh_s h 68 s1.toNatClampNeg (nI 0)) (fun v h1 => dh_J G mX10_boil 117 [some (.ref 61), some (.int (x1)), some (.int (x2))] (v.toList ++ [.int ((dh_s h 68 s1.toNatClampNeg (nI 0)) 68 ((nI 20) + x2).toNatClampNeg), .int ((nI 20) + x2), .ref 68]) h1 Q))) : dh_J G mX10_boil 85 [some (.ref 61), some (.int (x1)), some (.int (x2))] [.int (s2), .int (s1), .ref 68] h Q := by
  refine a_if_eq 92 dX10_boil_85 (by decide) (fun c1 => ?_) (fun c1 => ?_)
  · replace k := k.1 c1
    refine a_aload_n dX10_boil_92 rfl ?_
    refine a_getR dX10_boil_93 fF_RX10_32 rfl rfl ?_
    refine a_bipush dX10_boil_96 (v := nI 26) (by decide) ?_
    refine a_iload_n dX10_boil_98 rfl ?_
    refine a_iadd dX10_boil_99 ?_
    obtain ⟨e2, k⟩ := k
    refine a_iald dX10_boil_100 rfl e2 ?_
    obtain ⟨e3, k⟩ := k
    refine a_iast dX10_boil_101 rfl e3 ?_
    refine a_aload_n dX10_boil_102 rfl ?_
    refine a_getR dX10_boil_103 fF_RX10_32 rfl rfl ?_
    refine a_bipush dX10_boil_106 (v := nI 20) (by decide) ?_
    refine a_iload_n dX10_boil_108 rfl ?_
    refine a_iadd dX10_boil_109 ?_
    refine a_dup2 dX10_boil_110 rfl rfl ?_
    obtain ⟨e4, k⟩ := k
    refine a_iald dX10_boil_111 rfl e4 ?_
    refine a_iload_n dX10_boil_112 rfl ?_
    refine a_iload_n dX10_boil_113 rfl ?_
    exact a_callS2 dX10_boil_114 (dh_Y_up cY_RX10_200 (by decide)) (Nat.le_of_ble_eq_true rfl) k
  · replace k := k.2 c1
    refine a_iconst dX10_boil_88 (v := nI 0) (by decide) ?_
    refine a_goto 101 dX10_boil_89 (by decide) ?_
    obtain ⟨e5, k⟩ := k
    refine a_iast dX10_boil_101 rfl e5 ?_
    refine a_aload_n dX10_boil_102 rfl ?_
    refine a_getR dX10_boil_103 fF_RX10_32 rfl rfl ?_
    refine a_bipush dX10_boil_106 (v := nI 20) (by decide) ?_
    refine a_iload_n dX10_boil_108 rfl ?_
    refine a_iadd dX10_boil_109 ?_
    refine a_dup2 dX10_boil_110 rfl rfl ?_
    obtain ⟨e6, k⟩ := k
    refine a_iald dX10_boil_111 rfl e6 ?_
    refine a_iload_n dX10_boil_112 rfl ?_
    refine a_iload_n dX10_boil_113 rfl ?_
    exact a_callS2 dX10_boil_114 (dh_Y_up cY_RX10_200 (by decide)) (Nat.le_of_ble_eq_true rfl) k
set_option maxRecDepth 100000 in
theorem w_X10_boil_117 {G : dh_G} {x1 x2 s1 s2 s3 : Int32} {h : dh_H} {Q : Option Value → dh_H → Prop} (k : ((s3 = 0) → (vp_in s1 32) ∧ dh_J G mX10_boil 64 [some (.ref 61), some (.int (x1)), some (.int (x2 + (nI 1)))] [] (dh_s h 68 s1.toNatClampNeg (s2 + (nI 0))) Q) ∧ ((¬ s3 = 0) → (vp_in s1 32) ∧ dh_J G mX10_boil 64 [some (.ref 61), some (.int (x1)), some (.int (x2 + (nI 1)))] [] (dh_s h 68 s1.toNatClampNeg (s2 + (nI 1))) Q)) : dh_J G mX10_boil 117 [some (.ref 61), some (.int (x1)), some (.int (x2))] [.int (s3), .int (s2), .int (s1), .ref 68] h Q := by
  refine a_if_eq 124 dX10_boil_117 (by decide) (fun c1 => ?_) (fun c1 => ?_)
  · replace k := k.1 c1
    refine a_iconst dX10_boil_124 (v := nI 0) (by decide) ?_
    refine a_iadd dX10_boil_125 ?_
    obtain ⟨e2, k⟩ := k
    refine a_iast dX10_boil_126 rfl e2 ?_
    refine a_iinc dX10_boil_127 (v := x2 + (nI 1)) rfl (by rfl) (by decide) rfl ?_
    refine a_goto 64 dX10_boil_130 (by decide) ?_
    exact k
  · replace k := k.2 c1
    refine a_iconst dX10_boil_120 (v := nI 1) (by decide) ?_
    refine a_goto 125 dX10_boil_121 (by decide) ?_
    refine a_iadd dX10_boil_125 ?_
    obtain ⟨e3, k⟩ := k
    refine a_iast dX10_boil_126 rfl e3 ?_
    refine a_iinc dX10_boil_127 (v := x2 + (nI 1)) rfl (by rfl) (by decide) rfl ?_
    refine a_goto 64 dX10_boil_130 (by decide) ?_
    exact k
set_option maxRecDepth 100000 in
theorem w_X10_cold_0 {G : dh_G} {x1 : Int32} {h : dh_H} {Q : Option Value → dh_H → Prop} (k : dh_C G mX10_isChild [.ref 61, .int (x1)] h (fun v h1 => dh_J G mX10_cold 5 [some (.ref 61), some (.int (x1))] (v.toList ++ []) h1 Q)) : dh_J G mX10_cold 0 [some (.ref 61), some (.int (x1))] [] h Q := by
  refine a_aload_n dX10_cold_0 rfl ?_
  refine a_iload_n dX10_cold_1 rfl ?_
  exact a_callV1 dX10_cold_2 (dh_Y_up cY_RX10_189 (by decide)) rfl rfl (Nat.le_of_ble_eq_true rfl) k
theorem e_X10_cold {G : dh_G} {x1 : Int32} {h : dh_H} {Q : Option Value → dh_H → Prop} (k : dh_C G mX10_isChild [.ref 61, .int (x1)] h (fun v h1 => dh_J G mX10_cold 5 [some (.ref 61), some (.int (x1))] (v.toList ++ []) h1 Q)) : dh_C G mX10_cold [.ref 61, .int (x1)] h Q := dh_C_of [some (.ref 61), some (.int (x1))] (by decide) (Nat.le_of_ble_eq_true rfl) rfl (w_X10_cold_0 k)
set_option maxRecDepth 100000 in
theorem w_X10_cold_5 {G : dh_G} {x1 s0 : Int32} {h : dh_H} {Q : Option Value → dh_H → Prop} (k : ((¬ s0 = 0) → dh_C G mX10_note [.ref 61] h (fun v h1 => dh_J G mX10_cold 15 [some (.ref 61), some (.int (x1))] (v.toList ++ []) h1 Q)) ∧ ((s0 = 0) → Q (some (.int ((-1000000001 : Int32)))) h)) : dh_J G mX10_cold 5 [some (.ref 61), some (.int (x1))] [.int (s0)] h Q := by
  refine a_if_ne 11 dX10_cold_5 (by decide) (fun c1 => ?_) (fun c1 => ?_)
  · replace k := k.1 c1
    refine a_aload_n dX10_cold_11 rfl ?_
    exact a_callV0 dX10_cold_12 (dh_Y_up cY_RX10_207 (by decide)) rfl rfl (Nat.le_of_ble_eq_true rfl) k
  · replace k := k.2 c1
    refine a_ldc dX10_cold_8 (v := (-1000000001 : Int32)) kK_RX10_192 ?_
    exact a_iret dX10_cold_10 rfl k
set_option maxRecDepth 100000 in
theorem w_X10_cold_15 {G : dh_G} {x1 : Int32} {h : dh_H} {Q : Option Value → dh_H → Prop} (k : (vp_in ((nI 7) + x1) 32) ∧ Q (some (.int (h 61 17))) (dh_s h 68 ((nI 7) + x1).toNatClampNeg (h 61 17))) : dh_J G mX10_cold 15 [some (.ref 61), some (.int (x1))] [] h Q := by
  refine a_aload_n dX10_cold_15 rfl ?_
  refine a_getR dX10_cold_16 fF_RX10_32 rfl rfl ?_
  refine a_bipush dX10_cold_19 (v := nI 7) (by decide) ?_
  refine a_iload_n dX10_cold_21 rfl ?_
  refine a_iadd dX10_cold_22 ?_
  refine a_aload_n dX10_cold_23 rfl ?_
  refine a_getI dX10_cold_24 fF_RX10_151 rfl rfl ?_
  obtain ⟨e1, k⟩ := k
  refine a_iast dX10_cold_27 rfl e1 ?_
  refine a_aload_n dX10_cold_28 rfl ?_
  refine a_getI dX10_cold_29 fF_RX10_151 rfl rfl ?_
  exact a_iret dX10_cold_32 rfl k
set_option maxRecDepth 100000 in
theorem w_X10_draw_0 {G : dh_G} {x1 : Int32} {h : dh_H} {Q : Option Value → dh_H → Prop} (k : (¬ (2147483648 : Int64) = 0) ∧ (¬ nI 65536 = 0) ∧ (¬ x1 = 0) ∧ Q (some (.int ((((((((h 61 30).toInt64) * (1103515245 : Int64)) + (12345 : Int64)) - ((((h 61 30).toInt64) * (1103515245 : Int64)) + (12345 : Int64)) / (2147483648 : Int64) * (2147483648 : Int64)).toInt32) / (nI 65536)) - (((((((h 61 30).toInt64) * (1103515245 : Int64)) + (12345 : Int64)) - ((((h 61 30).toInt64) * (1103515245 : Int64)) + (12345 : Int64)) / (2147483648 : Int64) * (2147483648 : Int64)).toInt32) / (nI 65536)) / x1 * x1))) (dh_s h 61 30 ((((((h 61 30).toInt64) * (1103515245 : Int64)) + (12345 : Int64)) - ((((h 61 30).toInt64) * (1103515245 : Int64)) + (12345 : Int64)) / (2147483648 : Int64) * (2147483648 : Int64)).toInt32))) : dh_J G mX10_draw 0 [some (.ref 61), some (.int (x1))] [] h Q := by
  refine a_aload_n dX10_draw_0 rfl ?_
  refine a_aload_n dX10_draw_1 rfl ?_
  refine a_getI dX10_draw_2 fF_RX10_223 rfl rfl ?_
  refine a_i2l dX10_draw_5 ?_
  refine a_ldc2 dX10_draw_6 (v := 1103515245) kKL_RX10_226 ?_
  refine a_lmul dX10_draw_9 ?_
  refine a_ldc2 dX10_draw_10 (v := 12345) kKL_RX10_228 ?_
  refine a_ladd dX10_draw_13 ?_
  refine a_ldc2 dX10_draw_14 (v := 2147483648) kKL_RX10_230 ?_
  obtain ⟨e1, k⟩ := k
  refine a_lrem dX10_draw_17 e1 ?_
  refine a_l2i dX10_draw_18 ?_
  refine a_put dX10_draw_19 fF_RX10_223 rfl rfl rfl rfl ?_
  refine a_aload_n dX10_draw_22 rfl ?_
  refine a_getI dX10_draw_23 fF_RX10_223 rfl rfl ?_
  refine a_ldc dX10_draw_26 (v := nI 65536) kK_RX10_232 ?_
  obtain ⟨e2, k⟩ := k
  refine a_idiv dX10_draw_28 e2 ?_
  refine a_iload_n dX10_draw_29 rfl ?_
  obtain ⟨e3, k⟩ := k
  refine a_irem dX10_draw_30 e3 ?_
  exact a_iret dX10_draw_31 rfl k
theorem e_X10_draw {G : dh_G} {x1 : Int32} {h : dh_H} {Q : Option Value → dh_H → Prop} (k : (¬ (2147483648 : Int64) = 0) ∧ (¬ nI 65536 = 0) ∧ (¬ x1 = 0) ∧ Q (some (.int ((((((((h 61 30).toInt64) * (1103515245 : Int64)) + (12345 : Int64)) - ((((h 61 30).toInt64) * (1103515245 : Int64)) + (12345 : Int64)) / (2147483648 : Int64) * (2147483648 : Int64)).toInt32) / (nI 65536)) - (((((((h 61 30).toInt64) * (1103515245 : Int64)) + (12345 : Int64)) - ((((h 61 30).toInt64) * (1103515245 : Int64)) + (12345 : Int64)) / (2147483648 : Int64) * (2147483648 : Int64)).toInt32) / (nI 65536)) / x1 * x1))) (dh_s h 61 30 ((((((h 61 30).toInt64) * (1103515245 : Int64)) + (12345 : Int64)) - ((((h 61 30).toInt64) * (1103515245 : Int64)) + (12345 : Int64)) / (2147483648 : Int64) * (2147483648 : Int64)).toInt32))) : dh_C G mX10_draw [.ref 61, .int (x1)] h Q := dh_C_of [some (.ref 61), some (.int (x1))] (by decide) (Nat.le_of_ble_eq_true rfl) rfl (w_X10_draw_0 k)
set_option maxRecDepth 100000 in
theorem w_X10_chance_0 {G : dh_G} {h : dh_H} {Q : Option Value → dh_H → Prop} (k : dh_C G mX10_draw [.ref 61, .int (h 61 20)] h (fun v h1 => dh_J G mX10_chance 8 [some (.ref 61), none, none, none] (v.toList ++ []) h1 Q)) : dh_J G mX10_chance 0 [some (.ref 61), none, none, none] [] h Q := by
  refine a_aload_n dX10_chance_0 rfl ?_
  refine a_aload_n dX10_chance_1 rfl ?_
  refine a_getI dX10_chance_2 fF_RX10_73 rfl rfl ?_
  exact a_callV1 dX10_chance_5 (dh_Y_up cY_RX10_233 (by decide)) rfl rfl (Nat.le_of_ble_eq_true rfl) k
theorem e_X10_chance {G : dh_G} {h : dh_H} {Q : Option Value → dh_H → Prop} (k : dh_C G mX10_draw [.ref 61, .int (h 61 20)] h (fun v h1 => dh_J G mX10_chance 8 [some (.ref 61), none, none, none] (v.toList ++ []) h1 Q)) : dh_C G mX10_chance [.ref 61] h Q := dh_C_of [some (.ref 61), none, none, none] (by decide) (Nat.le_of_ble_eq_true rfl) rfl (w_X10_chance_0 k)
set_option maxRecDepth 100000 in
theorem w_X10_chance_8 {G : dh_G} {s0 : Int32} {h : dh_H} {Q : Option Value → dh_H → Prop} (k : dh_C G mX10_draw [.ref 61, .int (h 61 19)] h (fun v h1 => dh_J G mX10_chance 17 [some (.ref 61), some (.int (s0)), none, none] (v.toList ++ []) h1 Q)) : dh_J G mX10_chance 8 [some (.ref 61), none, none, none] [.int (s0)] h Q := by
  refine a_istore_n dX10_chance_8 (by decide) rfl ?_
  refine a_aload_n dX10_chance_9 rfl ?_
  refine a_aload_n dX10_chance_10 rfl ?_
  refine a_getI dX10_chance_11 fF_RX10_66 rfl rfl ?_
  exact a_callV1 dX10_chance_14 (dh_Y_up cY_RX10_233 (by decide)) rfl rfl (Nat.le_of_ble_eq_true rfl) k
set_option maxRecDepth 100000 in
theorem w_X10_chance_17 {G : dh_G} {x1 s0 : Int32} {h : dh_H} {Q : Option Value → dh_H → Prop} (k : dh_C G mX10_draw [.ref 61, .int (nI 4)] h (fun v h1 => dh_J G mX10_chance 23 [some (.ref 61), some (.int (x1)), some (.int (s0)), none] (v.toList ++ []) h1 Q)) : dh_J G mX10_chance 17 [some (.ref 61), some (.int (x1)), none, none] [.int (s0)] h Q := by
  refine a_istore_n dX10_chance_17 (by decide) rfl ?_
  refine a_aload_n dX10_chance_18 rfl ?_
  refine a_iconst dX10_chance_19 (v := nI 4) (by decide) ?_
  exact a_callV1 dX10_chance_20 (dh_Y_up cY_RX10_233 (by decide)) rfl rfl (Nat.le_of_ble_eq_true rfl) k
set_option maxRecDepth 100000 in
theorem w_X10_chance_23 {G : dh_G} {x1 x2 s0 : Int32} {h : dh_H} {Q : Option Value → dh_H → Prop} (k : ((¬ s0 = 0) → ((¬ s0 = (nI 1)) → dh_C G mX10_canGive [.ref 61, .int (x1), .int (x2)] h (fun v h1 => dh_J G mX10_chance 79 [some (.ref 61), some (.int (x1)), some (.int (x2)), none] (v.toList ++ []) h1 Q)) ∧ ((s0 = (nI 1)) → dh_C G mX10_draw [.ref 61, .int (nI 100)] (dh_s h 68 19 ((h 68 19) &&& (((nI 1) <<< (x1 &&& 31)) ^^^ (-1 : Int32)))) (fun v h1 => dh_J G mX10_chance 95 [some (.ref 61), none, some (.int (x2)), none] (v.toList ++ []) h1 Q))) ∧ ((s0 = 0) → dh_C G mX10_holderOf [.ref 61, .int (x1)] h (fun v h1 => dh_J G mX10_chance 33 [some (.ref 61), some (.int (x1)), some (.int (x2)), none] (v.toList ++ []) h1 Q))) : dh_J G mX10_chance 23 [some (.ref 61), some (.int (x1)), some (.int (x2)), none] [.int (s0)] h Q := by
  refine a_istore_n dX10_chance_23 (by decide) rfl ?_
  refine a_iload_n dX10_chance_24 rfl ?_
  refine a_if_ne 45 dX10_chance_25 (by decide) (fun c1 => ?_) (fun c1 => ?_)
  · replace k := k.1 c1
    refine a_iload_n dX10_chance_45 rfl ?_
    refine a_iconst dX10_chance_46 (v := nI 1) (by decide) ?_
    refine a_icmp_ne 73 dX10_chance_47 (by decide) (fun c2 => ?_) (fun c2 => ?_)
    · replace k := k.1 c2
      refine a_aload_n dX10_chance_73 rfl ?_
      refine a_iload_n dX10_chance_74 rfl ?_
      refine a_iload_n dX10_chance_75 rfl ?_
      refine dh_drop 3 ?_
      exact a_callV2 dX10_chance_76 (dh_Y_up cY_RX10_213 (by decide)) rfl rfl (Nat.le_of_ble_eq_true rfl) k
    · replace k := k.2 c2
      refine a_aload_n dX10_chance_50 rfl ?_
      refine a_getR dX10_chance_51 fF_RX10_32 rfl rfl ?_
      refine a_bipush dX10_chance_54 (v := nI 19) (by decide) ?_
      refine a_aload_n dX10_chance_56 rfl ?_
      refine a_getR dX10_chance_57 fF_RX10_32 rfl rfl ?_
      refine a_bipush dX10_chance_60 (v := nI 19) (by decide) ?_
      refine a_ialdN dX10_chance_62 rfl (j := 19) rfl (by decide) (by decide) ?_
      refine a_iconst dX10_chance_63 (v := nI 1) (by decide) ?_
      refine a_iload_n dX10_chance_64 rfl ?_
      refine a_ishl dX10_chance_65 ?_
      refine a_iconst dX10_chance_66 (v := (-1 : Int32)) (by decide) ?_
      refine a_ixor dX10_chance_67 ?_
      refine a_iand dX10_chance_68 ?_
      refine a_iastN dX10_chance_69 rfl (j := 19) rfl (by decide) (by decide) ?_
      refine a_goto 89 dX10_chance_70 (by decide) ?_
      refine a_aload_n dX10_chance_89 rfl ?_
      refine a_bipush dX10_chance_90 (v := nI 100) (by decide) ?_
      refine dh_drop 1 ?_
      refine dh_drop 3 ?_
      exact a_callV1 dX10_chance_92 (dh_Y_up cY_RX10_233 (by decide)) rfl rfl (Nat.le_of_ble_eq_true rfl) k
  · replace k := k.2 c1
    refine a_aload_n dX10_chance_28 rfl ?_
    refine a_iload_n dX10_chance_29 rfl ?_
    refine dh_drop 3 ?_
    exact a_callV1 dX10_chance_30 (dh_Y_up cY_RX10_196 (by decide)) rfl rfl (Nat.le_of_ble_eq_true rfl) k
set_option maxRecDepth 100000 in
theorem w_X10_chance_33 {G : dh_G} {x1 x2 s0 : Int32} {h : dh_H} {Q : Option Value → dh_H → Prop} (k : ((s0 = (-1 : Int32)) → dh_C G mX10_draw [.ref 61, .int (nI 100)] h (fun v h1 => dh_J G mX10_chance 95 [some (.ref 61), none, some (.int (x2)), none] (v.toList ++ []) h1 Q)) ∧ ((¬ s0 = (-1 : Int32)) → dh_C G mX10_drops [.ref 61, .int (x1)] h (fun v h1 => dh_J G mX10_chance 42 [some (.ref 61), none, some (.int (x2)), none] (v.toList ++ []) h1 Q))) : dh_J G mX10_chance 33 [some (.ref 61), some (.int (x1)), some (.int (x2)), none] [.int (s0)] h Q := by
  refine a_iconst dX10_chance_33 (v := (-1 : Int32)) (by decide) ?_
  refine a_icmp_eq 89 dX10_chance_34 (by decide) (fun c1 => ?_) (fun c1 => ?_)
  · replace k := k.1 c1
    refine a_aload_n dX10_chance_89 rfl ?_
    refine a_bipush dX10_chance_90 (v := nI 100) (by decide) ?_
    refine dh_drop 1 ?_
    exact a_callV1 dX10_chance_92 (dh_Y_up cY_RX10_233 (by decide)) rfl rfl (Nat.le_of_ble_eq_true rfl) k
  · replace k := k.2 c1
    refine a_aload_n dX10_chance_37 rfl ?_
    refine a_iload_n dX10_chance_38 rfl ?_
    refine dh_drop 1 ?_
    exact a_callV1 dX10_chance_39 (dh_Y_up cY_RX10_219 (by decide)) rfl rfl (Nat.le_of_ble_eq_true rfl) k
set_option maxRecDepth 100000 in
theorem w_X10_chance_42 {G : dh_G} {x2 : Int32} {h : dh_H} {Q : Option Value → dh_H → Prop} (k : dh_C G mX10_draw [.ref 61, .int (nI 100)] h (fun v h1 => dh_J G mX10_chance 95 [some (.ref 61), none, some (.int (x2)), none] (v.toList ++ []) h1 Q)) : dh_J G mX10_chance 42 [some (.ref 61), none, some (.int (x2)), none] [] h Q := by
  refine a_goto 89 dX10_chance_42 (by decide) ?_
  refine a_aload_n dX10_chance_89 rfl ?_
  refine a_bipush dX10_chance_90 (v := nI 100) (by decide) ?_
  exact a_callV1 dX10_chance_92 (dh_Y_up cY_RX10_233 (by decide)) rfl rfl (Nat.le_of_ble_eq_true rfl) k
set_option maxRecDepth 100000 in
theorem w_X10_chance_79 {G : dh_G} {x1 x2 s0 : Int32} {h : dh_H} {Q : Option Value → dh_H → Prop} (k : ((s0 = 0) → dh_C G mX10_draw [.ref 61, .int (nI 100)] h (fun v h1 => dh_J G mX10_chance 95 [some (.ref 61), none, some (.int (x2)), none] (v.toList ++ []) h1 Q)) ∧ ((¬ s0 = 0) → dh_C G mX10_gives [.ref 61, .int (x1), .int (x2)] h (fun v h1 => dh_J G mX10_chance 88 [some (.ref 61), none, some (.int (x2)), none] (v.toList ++ []) h1 Q))) : dh_J G mX10_chance 79 [some (.ref 61), some (.int (x1)), some (.int (x2)), none] [.int (s0)] h Q := by
  refine a_if_eq 89 dX10_chance_79 (by decide) (fun c1 => ?_) (fun c1 => ?_)
  · replace k := k.1 c1
    refine a_aload_n dX10_chance_89 rfl ?_
    refine a_bipush dX10_chance_90 (v := nI 100) (by decide) ?_
    refine dh_drop 1 ?_
    exact a_callV1 dX10_chance_92 (dh_Y_up cY_RX10_233 (by decide)) rfl rfl (Nat.le_of_ble_eq_true rfl) k
  · replace k := k.2 c1
    refine a_aload_n dX10_chance_82 rfl ?_
    refine a_iload_n dX10_chance_83 rfl ?_
    refine a_iload_n dX10_chance_84 rfl ?_
    refine dh_drop 1 ?_
    exact a_callV2 dX10_chance_85 (dh_Y_up cY_RX10_216 (by decide)) rfl rfl (Nat.le_of_ble_eq_true rfl) k
set_option maxRecDepth 100000 in
theorem w_X10_chance_88 {G : dh_G} {x2 s0 : Int32} {h : dh_H} {Q : Option Value → dh_H → Prop} (k : dh_C G mX10_draw [.ref 61, .int (nI 100)] h (fun v h1 => dh_J G mX10_chance 95 [some (.ref 61), none, some (.int (x2)), none] (v.toList ++ []) h1 Q)) : dh_J G mX10_chance 88 [some (.ref 61), none, some (.int (x2)), none] [.int (s0)] h Q := by
  refine a_pop dX10_chance_88 rfl ?_
  refine a_aload_n dX10_chance_89 rfl ?_
  refine a_bipush dX10_chance_90 (v := nI 100) (by decide) ?_
  exact a_callV1 dX10_chance_92 (dh_Y_up cY_RX10_233 (by decide)) rfl rfl (Nat.le_of_ble_eq_true rfl) k
set_option maxRecDepth 100000 in
theorem w_X10_chance_95 {G : dh_G} {x2 s0 : Int32} {h : dh_H} {Q : Option Value → dh_H → Prop} (k : (((h 61 18) ≤ s0) → Q none h) ∧ ((¬ (h 61 18) ≤ s0) → (vp_in ((nI 7) + x2) 32) ∧ Q none (dh_s h 68 ((nI 7) + x2).toNatClampNeg (h 61 17)))) : dh_J G mX10_chance 95 [some (.ref 61), none, some (.int (x2)), none] [.int (s0)] h Q := by
  refine a_aload_n dX10_chance_95 rfl ?_
  refine a_getI dX10_chance_96 fF_RX10_154 rfl rfl ?_
  refine a_icmp_ge 115 dX10_chance_99 (by decide) (fun c1 => ?_) (fun c1 => ?_)
  · replace k := k.1 c1
    exact a_vret dX10_chance_115 rfl k
  · replace k := k.2 c1
    refine a_aload_n dX10_chance_102 rfl ?_
    refine a_getR dX10_chance_103 fF_RX10_32 rfl rfl ?_
    refine a_bipush dX10_chance_106 (v := nI 7) (by decide) ?_
    refine a_iload_n dX10_chance_108 rfl ?_
    refine a_iadd dX10_chance_109 ?_
    refine a_aload_n dX10_chance_110 rfl ?_
    refine a_getI dX10_chance_111 fF_RX10_151 rfl rfl ?_
    obtain ⟨e2, k⟩ := k
    refine a_iast dX10_chance_114 rfl e2 ?_
    exact a_vret dX10_chance_115 rfl k
set_option maxRecDepth 100000 in
theorem w_X10_drift_0 {G : dh_G} {x1 : Int32} {h : dh_H} {Q : Option Value → dh_H → Prop} (k : dh_C G mX10_noHours [.ref 61, .int (x1)] h (fun v h1 => dh_J G mX10_drift 5 [some (.ref 61), some (.int (x1)), none] (v.toList ++ []) h1 Q)) : dh_J G mX10_drift 0 [some (.ref 61), some (.int (x1)), none] [] h Q := by
  refine a_aload_n dX10_drift_0 rfl ?_
  refine a_iload_n dX10_drift_1 rfl ?_
  exact a_callV1 dX10_drift_2 (dh_Y_up cY_RX10_204 (by decide)) rfl rfl (Nat.le_of_ble_eq_true rfl) k
theorem e_X10_drift {G : dh_G} {x1 : Int32} {h : dh_H} {Q : Option Value → dh_H → Prop} (k : dh_C G mX10_noHours [.ref 61, .int (x1)] h (fun v h1 => dh_J G mX10_drift 5 [some (.ref 61), some (.int (x1)), none] (v.toList ++ []) h1 Q)) : dh_C G mX10_drift [.ref 61, .int (x1)] h Q := dh_C_of [some (.ref 61), some (.int (x1)), none] (by decide) (Nat.le_of_ble_eq_true rfl) rfl (w_X10_drift_0 k)
set_option maxRecDepth 100000 in
theorem w_X10_drift_5 {G : dh_G} {x1 s0 : Int32} {h : dh_H} {Q : Option Value → dh_H → Prop} (k : ((s0 = 0) → dh_C G mX10_note [.ref 61] h (fun v h1 => dh_J G mX10_drift 18 [some (.ref 61), some (.int (x1)), none] (v.toList ++ []) h1 Q)) ∧ ((¬ s0 = 0) → dh_C G mX10_noHours [.ref 61, .int (x1)] h (fun v h1 => dh_J G mX10_drift 13 [none, none, none] (v.toList ++ []) h1 Q))) : dh_J G mX10_drift 5 [some (.ref 61), some (.int (x1)), none] [.int (s0)] h Q := by
  refine a_if_eq 14 dX10_drift_5 (by decide) (fun c1 => ?_) (fun c1 => ?_)
  · replace k := k.1 c1
    refine a_aload_n dX10_drift_14 rfl ?_
    exact a_callV0 dX10_drift_15 (dh_Y_up cY_RX10_207 (by decide)) rfl rfl (Nat.le_of_ble_eq_true rfl) k
  · replace k := k.2 c1
    refine a_aload_n dX10_drift_8 rfl ?_
    refine a_iload_n dX10_drift_9 rfl ?_
    refine dh_drop 0 ?_
    refine dh_drop 1 ?_
    exact a_callV1 dX10_drift_10 (dh_Y_up cY_RX10_204 (by decide)) rfl rfl (Nat.le_of_ble_eq_true rfl) k
set_option maxRecDepth 100000 in
theorem w_X10_drift_13 {G : dh_G} {s0 : Int32} {h : dh_H} {Q : Option Value → dh_H → Prop} (k : Q (some (.int (s0))) h) : dh_J G mX10_drift 13 [none, none, none] [.int (s0)] h Q := by
  exact a_iret dX10_drift_13 rfl k
set_option maxRecDepth 100000 in
theorem w_X10_drift_18 {G : dh_G} {x1 : Int32} {h : dh_H} {Q : Option Value → dh_H → Prop} (k : dh_J G mX10_drift 20 [some (.ref 61), some (.int (x1)), some (.int (nI 0))] [] h Q) : dh_J G mX10_drift 18 [some (.ref 61), some (.int (x1)), none] [] h Q := by
  refine a_iconst dX10_drift_18 (v := nI 0) (by decide) ?_
  refine a_istore_n dX10_drift_19 (by decide) rfl ?_
  exact k
set_option maxRecDepth 100000 in
theorem w_X10_drift_20 {G : dh_G} {x1 x2 : Int32} {h : dh_H} {Q : Option Value → dh_H → Prop} (k : ((x1 ≤ x2) → dh_C G mX10_calmOnes [.ref 61] h (fun v h1 => dh_J G mX10_drift 57 [none, none, none] (v.toList ++ []) h1 Q)) ∧ ((¬ x1 ≤ x2) → (((h 61 19) ≤ 0) → dh_J G mX10_drift 43 [some (.ref 61), some (.int (x1)), some (.int (x2))] [] h Q) ∧ ((¬ (h 61 19) ≤ 0) → (((h 61 20) ≤ 0) → dh_J G mX10_drift 43 [some (.ref 61), some (.int (x1)), some (.int (x2))] [] h Q) ∧ ((¬ (h 61 20) ≤ 0) → dh_C G mX10_chance [.ref 61] h (fun v h1 => dh_J G mX10_drift 43 [some (.ref 61), some (.int (x1)), some (.int (x2))] (v.toList ++ []) h1 Q))))) : dh_J G mX10_drift 20 [some (.ref 61), some (.int (x1)), some (.int (x2))] [] h Q := by
  refine a_iload_n dX10_drift_20 rfl ?_
  refine a_iload_n dX10_drift_21 rfl ?_
  refine a_icmp_ge 53 dX10_drift_22 (by decide) (fun c1 => ?_) (fun c1 => ?_)
  · replace k := k.1 c1
    refine a_aload_n dX10_drift_53 rfl ?_
    refine dh_drop 0 ?_
    refine dh_drop 1 ?_
    refine dh_drop 2 ?_
    exact a_callV0 dX10_drift_54 (dh_Y_up cY_RX10_179 (by decide)) rfl rfl (Nat.le_of_ble_eq_true rfl) k
  · replace k := k.2 c1
    refine a_aload_n dX10_drift_25 rfl ?_
    refine a_getI dX10_drift_26 fF_RX10_66 rfl rfl ?_
    refine a_if_le 43 dX10_drift_29 (by decide) (fun c2 => ?_) (fun c2 => ?_)
    · replace k := k.1 c2
      exact k
    · replace k := k.2 c2
      refine a_aload_n dX10_drift_32 rfl ?_
      refine a_getI dX10_drift_33 fF_RX10_73 rfl rfl ?_
      refine a_if_le 43 dX10_drift_36 (by decide) (fun c3 => ?_) (fun c3 => ?_)
      · replace k := k.1 c3
        exact k
      · replace k := k.2 c3
        refine a_aload_n dX10_drift_39 rfl ?_
        exact a_callV0 dX10_drift_40 (dh_Y_up cY_RX10_236 (by decide)) rfl rfl (Nat.le_of_ble_eq_true rfl) k
set_option maxRecDepth 100000 in
theorem w_X10_drift_43 {G : dh_G} {x1 x2 : Int32} {h : dh_H} {Q : Option Value → dh_H → Prop} (k : dh_C G mX10_goBy [.ref 61] h (fun v h1 => dh_J G mX10_drift 47 [some (.ref 61), some (.int (x1)), some (.int (x2))] (v.toList ++ []) h1 Q)) : dh_J G mX10_drift 43 [some (.ref 61), some (.int (x1)), some (.int (x2))] [] h Q := by
  refine a_aload_n dX10_drift_43 rfl ?_
  exact a_callV0 dX10_drift_44 (dh_Y_up cY_RX10_210 (by decide)) rfl rfl (Nat.le_of_ble_eq_true rfl) k
set_option maxRecDepth 100000 in
theorem w_X10_drift_47 {G : dh_G} {x1 x2 : Int32} {h : dh_H} {Q : Option Value → dh_H → Prop} (k : dh_J G mX10_drift 20 [some (.ref 61), some (.int (x1)), some (.int (x2 + (nI 1)))] [] h Q) : dh_J G mX10_drift 47 [some (.ref 61), some (.int (x1)), some (.int (x2))] [] h Q := by
  refine a_iinc dX10_drift_47 (v := x2 + (nI 1)) rfl (by rfl) (by decide) rfl ?_
  refine a_goto 20 dX10_drift_50 (by decide) ?_
  exact k
set_option maxRecDepth 100000 in
theorem w_X10_drift_57 {G : dh_G} {s0 : Int32} {h : dh_H} {Q : Option Value → dh_H → Prop} (k : Q (some (.int (s0))) h) : dh_J G mX10_drift 57 [none, none, none] [.int (s0)] h Q := by
  exact a_iret dX10_drift_57 rfl k
set_option maxRecDepth 100000 in
theorem w_X10_undo_0 {G : dh_G} {h : dh_H} {Q : Option Value → dh_H → Prop} (k : ((¬ (h 61 26) = 0) → dh_C G mX10_bring [.ref 69, .int ((nI 32) * ((h 61 26) - (nI 1))), .ref 68, .int (nI 0), .int (nI 32)] (dh_s h 61 26 ((h 61 26) - (nI 1))) (fun v h1 => dh_J G mX10_undo 41 [some (.ref 61)] (v.toList ++ []) h1 Q)) ∧ (((h 61 26) = 0) → Q (some (.int ((-1000000003 : Int32)))) h)) : dh_J G mX10_undo 0 [some (.ref 61)] [] h Q := by
  refine a_aload_n dX10_undo_0 rfl ?_
  refine a_getI dX10_undo_1 fF_RX10_167 rfl rfl ?_
  refine a_if_ne 10 dX10_undo_4 (by decide) (fun c1 => ?_) (fun c1 => ?_)
  · replace k := k.1 c1
    refine a_aload_n dX10_undo_10 rfl ?_
    refine a_dup dX10_undo_11 rfl ?_
    refine a_getI dX10_undo_12 fF_RX10_167 rfl rfl ?_
    refine a_iconst dX10_undo_15 (v := nI 1) (by decide) ?_
    refine a_isub dX10_undo_16 ?_
    refine a_put dX10_undo_17 fF_RX10_167 rfl rfl rfl rfl ?_
    refine a_aload_n dX10_undo_20 rfl ?_
    refine a_getR dX10_undo_21 fF_RX10_35 rfl rfl ?_
    refine a_bipush dX10_undo_24 (v := nI 32) (by decide) ?_
    refine a_aload_n dX10_undo_26 rfl ?_
    refine a_getI dX10_undo_27 fF_RX10_167 rfl rfl ?_
    refine a_imul dX10_undo_30 ?_
    refine a_aload_n dX10_undo_31 rfl ?_
    refine a_getR dX10_undo_32 fF_RX10_32 rfl rfl ?_
    refine a_iconst dX10_undo_35 (v := nI 0) (by decide) ?_
    refine a_bipush dX10_undo_36 (v := nI 32) (by decide) ?_
    exact a_callS5 dX10_undo_38 (dh_Y_up cY_RX10_157 (by decide)) (Nat.le_of_ble_eq_true rfl) k
  · replace k := k.2 c1
    refine a_ldc dX10_undo_7 (v := (-1000000003 : Int32)) kK_RX10_203 ?_
    exact a_iret dX10_undo_9 rfl k
theorem e_X10_undo {G : dh_G} {h : dh_H} {Q : Option Value → dh_H → Prop} (k : ((¬ (h 61 26) = 0) → dh_C G mX10_bring [.ref 69, .int ((nI 32) * ((h 61 26) - (nI 1))), .ref 68, .int (nI 0), .int (nI 32)] (dh_s h 61 26 ((h 61 26) - (nI 1))) (fun v h1 => dh_J G mX10_undo 41 [some (.ref 61)] (v.toList ++ []) h1 Q)) ∧ (((h 61 26) = 0) → Q (some (.int ((-1000000003 : Int32)))) h)) : dh_C G mX10_undo [.ref 61] h Q := dh_C_of [some (.ref 61)] (by decide) (Nat.le_of_ble_eq_true rfl) rfl (w_X10_undo_0 k)
set_option maxRecDepth 100000 in
theorem w_X10_undo_41 {G : dh_G} {h : dh_H} {Q : Option Value → dh_H → Prop} (k : Q (some (.int (h 61 26))) h) : dh_J G mX10_undo 41 [some (.ref 61)] [] h Q := by
  refine a_aload_n dX10_undo_41 rfl ?_
  refine a_getI dX10_undo_42 fF_RX10_167 rfl rfl ?_
  exact a_iret dX10_undo_45 rfl k
set_option maxRecDepth 100000 in
theorem w_X10_isSafe_0 {G : dh_G} {x1 x2 : Int32} {h : dh_H} {Q : Option Value → dh_H → Prop} (k : (vp_in ((nI 7) + x1) 32) ∧ ((0 < (h 68 ((nI 7) + x1).toNatClampNeg)) → Q (some (.int (nI 1))) h) ∧ ((¬ 0 < (h 68 ((nI 7) + x1).toNatClampNeg)) → (vp_in ((nI 26) + x2) 32) ∧ dh_C G mX10_coldOnes [.ref 61] h (fun v h1 => dh_J G mX10_isSafe 25 [none, none, none] (v.toList ++ [.int (h 68 ((nI 26) + x2).toNatClampNeg)]) h1 Q))) : dh_J G mX10_isSafe 0 [some (.ref 61), some (.int (x1)), some (.int (x2))] [] h Q := by
  refine a_aload_n dX10_isSafe_0 rfl ?_
  refine a_getR dX10_isSafe_1 fF_RX10_32 rfl rfl ?_
  refine a_bipush dX10_isSafe_4 (v := nI 7) (by decide) ?_
  refine a_iload_n dX10_isSafe_6 rfl ?_
  refine a_iadd dX10_isSafe_7 ?_
  obtain ⟨e1, k⟩ := k
  refine a_iald dX10_isSafe_8 rfl e1 ?_
  refine a_if_gt 29 dX10_isSafe_9 (by decide) (fun c2 => ?_) (fun c2 => ?_)
  · replace k := k.1 c2
    refine a_iconst dX10_isSafe_29 (v := nI 1) (by decide) ?_
    refine a_goto 34 dX10_isSafe_30 (by decide) ?_
    exact a_zret dX10_isSafe_34 rfl (by decide) k
  · replace k := k.2 c2
    refine a_aload_n dX10_isSafe_12 rfl ?_
    refine a_getR dX10_isSafe_13 fF_RX10_32 rfl rfl ?_
    refine a_bipush dX10_isSafe_16 (v := nI 26) (by decide) ?_
    refine a_iload_n dX10_isSafe_18 rfl ?_
    refine a_iadd dX10_isSafe_19 ?_
    obtain ⟨e3, k⟩ := k
    refine a_iald dX10_isSafe_20 rfl e3 ?_
    refine a_aload_n dX10_isSafe_21 rfl ?_
    refine dh_drop 0 ?_
    refine dh_drop 1 ?_
    refine dh_drop 2 ?_
    exact a_callV0 dX10_isSafe_22 (dh_Y_up cY_RX10_183 (by decide)) rfl rfl (Nat.le_of_ble_eq_true rfl) k
theorem e_X10_isSafe {G : dh_G} {x1 x2 : Int32} {h : dh_H} {Q : Option Value → dh_H → Prop} (k : (vp_in ((nI 7) + x1) 32) ∧ ((0 < (h 68 ((nI 7) + x1).toNatClampNeg)) → Q (some (.int (nI 1))) h) ∧ ((¬ 0 < (h 68 ((nI 7) + x1).toNatClampNeg)) → (vp_in ((nI 26) + x2) 32) ∧ dh_C G mX10_coldOnes [.ref 61] h (fun v h1 => dh_J G mX10_isSafe 25 [none, none, none] (v.toList ++ [.int (h 68 ((nI 26) + x2).toNatClampNeg)]) h1 Q))) : dh_C G mX10_isSafe [.ref 61, .int (x1), .int (x2)] h Q := dh_C_of [some (.ref 61), some (.int (x1)), some (.int (x2))] (by decide) (Nat.le_of_ble_eq_true rfl) rfl (w_X10_isSafe_0 k)
set_option maxRecDepth 100000 in
theorem w_X10_isSafe_25 {G : dh_G} {s0 s1 : Int32} {h : dh_H} {Q : Option Value → dh_H → Prop} (k : ((¬ (s0 &&& s1) = 0) → Q (some (.int (nI 0))) h) ∧ (((s0 &&& s1) = 0) → Q (some (.int (nI 1))) h)) : dh_J G mX10_isSafe 25 [none, none, none] [.int (s1), .int (s0)] h Q := by
  refine a_iand dX10_isSafe_25 ?_
  refine a_if_ne 33 dX10_isSafe_26 (by decide) (fun c1 => ?_) (fun c1 => ?_)
  · replace k := k.1 c1
    refine a_iconst dX10_isSafe_33 (v := nI 0) (by decide) ?_
    exact a_zret dX10_isSafe_34 rfl (by decide) k
  · replace k := k.2 c1
    refine a_iconst dX10_isSafe_29 (v := nI 1) (by decide) ?_
    refine a_goto 34 dX10_isSafe_30 (by decide) ?_
    exact a_zret dX10_isSafe_34 rfl (by decide) k
set_option maxRecDepth 100000 in
theorem w_X10_layCalm_0 {G : dh_G} {x1 x2 : Int32} {h : dh_H} {Q : Option Value → dh_H → Prop} (k : dh_J G mX10_layCalm 13 [some (.ref 61), some (.int (x1)), some (.int (x2)), some (.int (nI 1)), some (.int ((h 61 20) + (nI 1))), some (.int (nI 0)), none, none, none, none, none, none, none] [] h Q) : dh_J G mX10_layCalm 0 [some (.ref 61), some (.int (x1)), some (.int (x2)), none, none, none, none, none, none, none, none, none, none] [] h Q := by
  refine a_iconst dX10_layCalm_0 (v := nI 1) (by decide) ?_
  refine a_istore_n dX10_layCalm_1 (by decide) rfl ?_
  refine a_aload_n dX10_layCalm_2 rfl ?_
  refine a_getI dX10_layCalm_3 fF_RX10_73 rfl rfl ?_
  refine a_iconst dX10_layCalm_6 (v := nI 1) (by decide) ?_
  refine a_iadd dX10_layCalm_7 ?_
  refine a_istore dX10_layCalm_8 (by decide) rfl ?_
  refine a_iconst dX10_layCalm_10 (v := nI 0) (by decide) ?_
  refine a_istore dX10_layCalm_11 (by decide) rfl ?_
  exact k
theorem e_X10_layCalm {G : dh_G} {x1 x2 : Int32} {h : dh_H} {Q : Option Value → dh_H → Prop} (k : dh_J G mX10_layCalm 13 [some (.ref 61), some (.int (x1)), some (.int (x2)), some (.int (nI 1)), some (.int ((h 61 20) + (nI 1))), some (.int (nI 0)), none, none, none, none, none, none, none] [] h Q) : dh_C G mX10_layCalm [.ref 61, .int (x1), .int (x2)] h Q := dh_C_of [some (.ref 61), some (.int (x1)), some (.int (x2)), none, none, none, none, none, none, none, none, none, none] (by decide) (Nat.le_of_ble_eq_true rfl) rfl (w_X10_layCalm_0 k)
set_option maxRecDepth 100000 in
theorem w_X10_layCalm_13 {G : dh_G} {x1 x2 x3 x4 x5 : Int32} {h : dh_H} {Q : Option Value → dh_H → Prop} (k : (((h 61 19) ≤ x5) → dh_J G mX10_layCalm 39 [some (.ref 61), some (.int (x1)), some (.int (x2)), some (.int (x3)), some (.int (x4)), some (.int ((-1 : Int32))), some (.int (nI 0)), none, none, none, none, none, none] [] h Q) ∧ ((¬ (h 61 19) ≤ x5) → dh_J G mX10_layCalm 13 [some (.ref 61), some (.int (x1)), some (.int (x2)), some (.int (x3 * x4)), some (.int (x4)), some (.int (x5 + (nI 1))), none, none, none, none, none, none, none] [] h Q)) : dh_J G mX10_layCalm 13 [some (.ref 61), some (.int (x1)), some (.int (x2)), some (.int (x3)), some (.int (x4)), some (.int (x5)), none, none, none, none, none, none, none] [] h Q := by
  refine a_iload dX10_layCalm_13 rfl ?_
  refine a_aload_n dX10_layCalm_15 rfl ?_
  refine a_getI dX10_layCalm_16 fF_RX10_66 rfl rfl ?_
  refine a_icmp_ge 33 dX10_layCalm_19 (by decide) (fun c1 => ?_) (fun c1 => ?_)
  · replace k := k.1 c1
    refine a_iconst dX10_layCalm_33 (v := (-1 : Int32)) (by decide) ?_
    refine a_istore dX10_layCalm_34 (by decide) rfl ?_
    refine a_iconst dX10_layCalm_36 (v := nI 0) (by decide) ?_
    refine a_istore dX10_layCalm_37 (by decide) rfl ?_
    exact k
  · replace k := k.2 c1
    refine a_iload_n dX10_layCalm_22 rfl ?_
    refine a_iload dX10_layCalm_23 rfl ?_
    refine a_imul dX10_layCalm_25 ?_
    refine a_istore_n dX10_layCalm_26 (by decide) rfl ?_
    refine a_iinc dX10_layCalm_27 (v := x5 + (nI 1)) rfl (by rfl) (by decide) rfl ?_
    refine a_goto 13 dX10_layCalm_30 (by decide) ?_
    exact k
set_option maxRecDepth 100000 in
theorem w_X10_layCalm_39 {G : dh_G} {x1 x2 x3 x4 x5 x6 : Int32} {h : dh_H} {Q : Option Value → dh_H → Prop} (k : ((x3 ≤ x6) → Q (some (.int (x5))) h) ∧ ((¬ x3 ≤ x6) → dh_J G mX10_layCalm 66 [some (.ref 61), some (.int (x1)), some (.int (x2)), some (.int (x3)), some (.int (x4)), some (.int (x5)), some (.int (x6)), some (.int (x6)), some (.int (x2)), some (.int (nI 0)), some (.int (nI 1)), some (.int ((h 61 19) - (nI 1))), none] [] h Q)) : dh_J G mX10_layCalm 39 [some (.ref 61), some (.int (x1)), some (.int (x2)), some (.int (x3)), some (.int (x4)), some (.int (x5)), some (.int (x6)), none, none, none, none, none, none] [] h Q := by
  refine a_iload dX10_layCalm_39 rfl ?_
  refine a_iload_n dX10_layCalm_41 rfl ?_
  refine a_icmp_ge 219 dX10_layCalm_42 (by decide) (fun c1 => ?_) (fun c1 => ?_)
  · replace k := k.1 c1
    refine a_iload dX10_layCalm_219 rfl ?_
    exact a_iret dX10_layCalm_221 rfl k
  · replace k := k.2 c1
    refine a_iload dX10_layCalm_45 rfl ?_
    refine a_istore dX10_layCalm_47 (by decide) rfl ?_
    refine a_iload_n dX10_layCalm_49 rfl ?_
    refine a_istore dX10_layCalm_50 (by decide) rfl ?_
    refine a_iconst dX10_layCalm_52 (v := nI 0) (by decide) ?_
    refine a_istore dX10_layCalm_53 (by decide) rfl ?_
    refine a_iconst dX10_layCalm_55 (v := nI 1) (by decide) ?_
    refine a_istore dX10_layCalm_56 (by decide) rfl ?_
    refine a_aload_n dX10_layCalm_58 rfl ?_
    refine a_getI dX10_layCalm_59 fF_RX10_66 rfl rfl ?_
    refine a_iconst dX10_layCalm_62 (v := nI 1) (by decide) ?_
    refine a_isub dX10_layCalm_63 ?_
    refine a_istore dX10_layCalm_64 (by decide) rfl ?_
    exact k
set_option maxRecDepth 100000 in
theorem w_X10_layCalm_66 {G : dh_G} {x1 x2 x3 x4 x5 x6 x7 x8 x9 x10 x11 : Int32} {h : dh_H} {Q : Option Value → dh_H → Prop} (k : ((x11 < 0) → ((x10 = 0) → dh_J G mX10_layCalm 213 [some (.ref 61), some (.int (x1)), some (.int (x2)), some (.int (x3)), some (.int (x4)), some (.int (x5)), some (.int (x6)), none, none, none, none, none, none] [] h Q) ∧ ((¬ x10 = 0) → ((x9 ≤ x5) → dh_J G mX10_layCalm 213 [some (.ref 61), some (.int (x1)), some (.int (x2)), some (.int (x3)), some (.int (x4)), some (.int (x5)), some (.int (x6)), none, none, none, none, none, none] [] h Q) ∧ ((¬ x9 ≤ x5) → dh_C G mX10_bring [.ref 75, .int (nI 0), .ref 76, .int (nI 0), .int (nI 6)] h (fun v h1 => dh_J G mX10_layCalm 213 [some (.ref 61), some (.int (x1)), some (.int (x2)), some (.int (x3)), some (.int (x4)), some (.int (x9)), some (.int (x6)), none, none, none, none, none, none] (v.toList ++ []) h1 Q)))) ∧ ((¬ x11 < 0) → (¬ x4 = 0) ∧ (¬ x4 = 0) ∧ ((¬ (x7 - x7 / x4 * x4) = (h 61 20)) → (vp_in x11 6) ∧ (((h 61 20) ≤ (x7 - x7 / x4 * x4)) → dh_J G mX10_layCalm 66 [some (.ref 61), some (.int (x1)), some (.int (x2)), some (.int (x3)), some (.int (x4)), some (.int (x5)), some (.int (x6)), some (.int (x7 / x4)), some (.int (x8)), some (.int (x9)), some (.int (x10)), some (.int (x11 + (-1 : Int32))), none] [] (dh_s h 75 x11.toNatClampNeg (x7 - x7 / x4 * x4)) Q) ∧ ((¬ (h 61 20) ≤ (x7 - x7 / x4 * x4)) → ((x10 = 0) → dh_J G mX10_layCalm 66 [some (.ref 61), some (.int (x1)), some (.int (x2)), some (.int (x3)), some (.int (x4)), some (.int (x5)), some (.int (x6)), some (.int (x7 / x4)), some (.int (x8 ||| ((nI 1) <<< ((x7 - x7 / x4 * x4) &&& 31)))), some (.int (x9 + (nI 1))), some (.int (nI 0)), some (.int (x11 + (-1 : Int32))), none] [] (dh_s h 75 x11.toNatClampNeg (x7 - x7 / x4 * x4)) Q) ∧ ((¬ x10 = 0) → dh_C G mX10_has [.int (x8), .int (x7 - x7 / x4 * x4)] (dh_s h 75 x11.toNatClampNeg (x7 - x7 / x4 * x4)) (fun v h1 => dh_J G mX10_layCalm 128 [some (.ref 61), some (.int (x1)), some (.int (x2)), some (.int (x3)), some (.int (x4)), some (.int (x5)), some (.int (x6)), some (.int (x7 / x4)), some (.int (x8)), some (.int (x9)), none, some (.int (x11)), some (.int (x7 - x7 / x4 * x4))] (v.toList ++ []) h1 Q)))) ∧ (((x7 - x7 / x4 * x4) = (h 61 20)) → (vp_in x11 6) ∧ (((h 61 20) ≤ (x7 - x7 / x4 * x4)) → dh_J G mX10_layCalm 66 [some (.ref 61), some (.int (x1)), some (.int (x2)), some (.int (x3)), some (.int (x4)), some (.int (x5)), some (.int (x6)), some (.int (x7 / x4)), some (.int (x8)), some (.int (x9)), some (.int (x10)), some (.int (x11 + (-1 : Int32))), none] [] (dh_s h 75 x11.toNatClampNeg (-1 : Int32)) Q) ∧ ((¬ (h 61 20) ≤ (x7 - x7 / x4 * x4)) → ((x10 = 0) → dh_J G mX10_layCalm 66 [some (.ref 61), some (.int (x1)), some (.int (x2)), some (.int (x3)), some (.int (x4)), some (.int (x5)), some (.int (x6)), some (.int (x7 / x4)), some (.int (x8 ||| ((nI 1) <<< ((x7 - x7 / x4 * x4) &&& 31)))), some (.int (x9 + (nI 1))), some (.int (nI 0)), some (.int (x11 + (-1 : Int32))), none] [] (dh_s h 75 x11.toNatClampNeg (-1 : Int32)) Q) ∧ ((¬ x10 = 0) → dh_C G mX10_has [.int (x8), .int (x7 - x7 / x4 * x4)] (dh_s h 75 x11.toNatClampNeg (-1 : Int32)) (fun v h1 => dh_J G mX10_layCalm 128 [some (.ref 61), some (.int (x1)), some (.int (x2)), some (.int (x3)), some (.int (x4)), some (.int (x5)), some (.int (x6)), some (.int (x7 / x4)), some (.int (x8)), some (.int (x9)), none, some (.int (x11)), some (.int (x7 - x7 / x4 * x4))] (v.toList ++ []) h1 Q)))))) : dh_J G mX10_layCalm 66 [some (.ref 61), some (.int (x1)), some (.int (x2)), some (.int (x3)), some (.int (x4)), some (.int (x5)), some (.int (x6)), some (.int (x7)), some (.int (x8)), some (.int (x9)), some (.int (x10)), some (.int (x11)), none] [] h Q := by
  refine a_iload dX10_layCalm_66 rfl ?_
  refine a_if_lt 182 dX10_layCalm_68 (by decide) (fun c1 => ?_) (fun c1 => ?_)
  · replace k := k.1 c1
    refine a_iload dX10_layCalm_182 rfl ?_
    refine a_if_eq 213 dX10_layCalm_184 (by decide) (fun c2 => ?_) (fun c2 => ?_)
    · replace k := k.1 c2
      refine dh_drop 7 ?_
      refine dh_drop 8 ?_
      refine dh_drop 9 ?_
      refine dh_drop 10 ?_
      refine dh_drop 11 ?_
      exact k
    · replace k := k.2 c2
      refine a_iload dX10_layCalm_187 rfl ?_
      refine a_iload dX10_layCalm_189 rfl ?_
      refine a_icmp_le 213 dX10_layCalm_191 (by decide) (fun c3 => ?_) (fun c3 => ?_)
      · replace k := k.1 c3
        refine dh_drop 7 ?_
        refine dh_drop 8 ?_
        refine dh_drop 9 ?_
        refine dh_drop 10 ?_
        refine dh_drop 11 ?_
        exact k
      · replace k := k.2 c3
        refine a_iload dX10_layCalm_194 rfl ?_
        refine a_istore dX10_layCalm_196 (by decide) rfl ?_
        refine a_aload_n dX10_layCalm_198 rfl ?_
        refine a_getR dX10_layCalm_199 fF_RX10_54 rfl rfl ?_
        refine a_iconst dX10_layCalm_202 (v := nI 0) (by decide) ?_
        refine a_aload_n dX10_layCalm_203 rfl ?_
        refine a_getR dX10_layCalm_204 fF_RX10_57 rfl rfl ?_
        refine a_iconst dX10_layCalm_207 (v := nI 0) (by decide) ?_
        refine a_bipush dX10_layCalm_208 (v := nI 6) (by decide) ?_
        refine dh_drop 7 ?_
        refine dh_drop 8 ?_
        refine dh_drop 9 ?_
        refine dh_drop 10 ?_
        refine dh_drop 11 ?_
        exact a_callS5 dX10_layCalm_210 (dh_Y_up cY_RX10_157 (by decide)) (Nat.le_of_ble_eq_true rfl) k
  · replace k := k.2 c1
    refine a_iload dX10_layCalm_71 rfl ?_
    refine a_iload dX10_layCalm_73 rfl ?_
    obtain ⟨e4, k⟩ := k
    refine a_irem dX10_layCalm_75 e4 ?_
    refine a_istore dX10_layCalm_76 (by decide) rfl ?_
    refine a_iload dX10_layCalm_78 rfl ?_
    refine a_iload dX10_layCalm_80 rfl ?_
    obtain ⟨e5, k⟩ := k
    refine a_idiv dX10_layCalm_82 e5 ?_
    refine a_istore dX10_layCalm_83 (by decide) rfl ?_
    refine a_aload_n dX10_layCalm_85 rfl ?_
    refine a_getR dX10_layCalm_86 fF_RX10_54 rfl rfl ?_
    refine a_iload dX10_layCalm_89 rfl ?_
    refine a_iload dX10_layCalm_91 rfl ?_
    refine a_aload_n dX10_layCalm_93 rfl ?_
    refine a_getI dX10_layCalm_94 fF_RX10_73 rfl rfl ?_
    refine a_icmp_ne 104 dX10_layCalm_97 (by decide) (fun c6 => ?_) (fun c6 => ?_)
    · replace k := k.1 c6
      refine a_iload dX10_layCalm_104 rfl ?_
      obtain ⟨e7, k⟩ := k
      refine a_iast dX10_layCalm_106 rfl e7 ?_
      refine a_iload dX10_layCalm_107 rfl ?_
      refine a_aload_n dX10_layCalm_109 rfl ?_
      refine a_getI dX10_layCalm_110 fF_RX10_73 rfl rfl ?_
      refine a_icmp_ge 176 dX10_layCalm_113 (by decide) (fun c8 => ?_) (fun c8 => ?_)
      · replace k := k.1 c8
        refine a_iinc dX10_layCalm_176 (v := x11 + (-1 : Int32)) rfl (by rfl) (by decide) rfl ?_
        refine a_goto 66 dX10_layCalm_179 (by decide) ?_
        refine dh_drop 12 ?_
        exact k
      · replace k := k.2 c8
        refine a_iload dX10_layCalm_116 rfl ?_
        refine a_if_eq 161 dX10_layCalm_118 (by decide) (fun c9 => ?_) (fun c9 => ?_)
        · replace k := k.1 c9
          refine a_iconst dX10_layCalm_161 (v := nI 0) (by decide) ?_
          refine a_istore dX10_layCalm_162 (by decide) rfl ?_
          refine a_iload dX10_layCalm_164 rfl ?_
          refine a_iconst dX10_layCalm_166 (v := nI 1) (by decide) ?_
          refine a_iload dX10_layCalm_167 rfl ?_
          refine a_ishl dX10_layCalm_169 ?_
          refine a_ior dX10_layCalm_170 ?_
          refine a_istore dX10_layCalm_171 (by decide) rfl ?_
          refine a_iinc dX10_layCalm_173 (v := x9 + (nI 1)) rfl (by rfl) (by decide) rfl ?_
          refine a_iinc dX10_layCalm_176 (v := x11 + (-1 : Int32)) rfl (by rfl) (by decide) rfl ?_
          refine a_goto 66 dX10_layCalm_179 (by decide) ?_
          refine dh_drop 12 ?_
          exact k
        · replace k := k.2 c9
          refine a_iload dX10_layCalm_121 rfl ?_
          refine a_iload dX10_layCalm_123 rfl ?_
          refine dh_drop 10 ?_
          exact a_callS2 dX10_layCalm_125 (dh_Y_up cY_RX10_200 (by decide)) (Nat.le_of_ble_eq_true rfl) k
    · replace k := k.2 c6
      refine a_iconst dX10_layCalm_100 (v := (-1 : Int32)) (by decide) ?_
      refine a_goto 106 dX10_layCalm_101 (by decide) ?_
      obtain ⟨e10, k⟩ := k
      refine a_iast dX10_layCalm_106 rfl e10 ?_
      refine a_iload dX10_layCalm_107 rfl ?_
      refine a_aload_n dX10_layCalm_109 rfl ?_
      refine a_getI dX10_layCalm_110 fF_RX10_73 rfl rfl ?_
      refine a_icmp_ge 176 dX10_layCalm_113 (by decide) (fun c11 => ?_) (fun c11 => ?_)
      · replace k := k.1 c11
        refine a_iinc dX10_layCalm_176 (v := x11 + (-1 : Int32)) rfl (by rfl) (by decide) rfl ?_
        refine a_goto 66 dX10_layCalm_179 (by decide) ?_
        refine dh_drop 12 ?_
        exact k
      · replace k := k.2 c11
        refine a_iload dX10_layCalm_116 rfl ?_
        refine a_if_eq 161 dX10_layCalm_118 (by decide) (fun c12 => ?_) (fun c12 => ?_)
        · replace k := k.1 c12
          refine a_iconst dX10_layCalm_161 (v := nI 0) (by decide) ?_
          refine a_istore dX10_layCalm_162 (by decide) rfl ?_
          refine a_iload dX10_layCalm_164 rfl ?_
          refine a_iconst dX10_layCalm_166 (v := nI 1) (by decide) ?_
          refine a_iload dX10_layCalm_167 rfl ?_
          refine a_ishl dX10_layCalm_169 ?_
          refine a_ior dX10_layCalm_170 ?_
          refine a_istore dX10_layCalm_171 (by decide) rfl ?_
          refine a_iinc dX10_layCalm_173 (v := x9 + (nI 1)) rfl (by rfl) (by decide) rfl ?_
          refine a_iinc dX10_layCalm_176 (v := x11 + (-1 : Int32)) rfl (by rfl) (by decide) rfl ?_
          refine a_goto 66 dX10_layCalm_179 (by decide) ?_
          refine dh_drop 12 ?_
          exact k
        · replace k := k.2 c12
          refine a_iload dX10_layCalm_121 rfl ?_
          refine a_iload dX10_layCalm_123 rfl ?_
          refine dh_drop 10 ?_
          exact a_callS2 dX10_layCalm_125 (dh_Y_up cY_RX10_200 (by decide)) (Nat.le_of_ble_eq_true rfl) k
set_option maxRecDepth 100000 in
theorem w_X10_layCalm_128 {G : dh_G} {x1 x2 x3 x4 x5 x6 x7 x8 x9 x11 x12 s0 : Int32} {h : dh_H} {Q : Option Value → dh_H → Prop} (k : ((¬ s0 = 0) → dh_J G mX10_layCalm 66 [some (.ref 61), some (.int (x1)), some (.int (x2)), some (.int (x3)), some (.int (x4)), some (.int (x5)), some (.int (x6)), some (.int (x7)), some (.int (x8 ||| ((nI 1) <<< (x12 &&& 31)))), some (.int (x9 + (nI 1))), some (.int (nI 0)), some (.int (x11 + (-1 : Int32))), none] [] h Q) ∧ ((s0 = 0) → dh_C G mX10_takes [.ref 61, .int (x11), .int (x12)] h (fun v h1 => dh_J G mX10_layCalm 139 [some (.ref 61), some (.int (x1)), some (.int (x2)), some (.int (x3)), some (.int (x4)), some (.int (x5)), some (.int (x6)), some (.int (x7)), some (.int (x8)), some (.int (x9)), none, some (.int (x11)), some (.int (x12))] (v.toList ++ []) h1 Q))) : dh_J G mX10_layCalm 128 [some (.ref 61), some (.int (x1)), some (.int (x2)), some (.int (x3)), some (.int (x4)), some (.int (x5)), some (.int (x6)), some (.int (x7)), some (.int (x8)), some (.int (x9)), none, some (.int (x11)), some (.int (x12))] [.int (s0)] h Q := by
  refine a_if_ne 161 dX10_layCalm_128 (by decide) (fun c1 => ?_) (fun c1 => ?_)
  · replace k := k.1 c1
    refine a_iconst dX10_layCalm_161 (v := nI 0) (by decide) ?_
    refine a_istore dX10_layCalm_162 (by decide) rfl ?_
    refine a_iload dX10_layCalm_164 rfl ?_
    refine a_iconst dX10_layCalm_166 (v := nI 1) (by decide) ?_
    refine a_iload dX10_layCalm_167 rfl ?_
    refine a_ishl dX10_layCalm_169 ?_
    refine a_ior dX10_layCalm_170 ?_
    refine a_istore dX10_layCalm_171 (by decide) rfl ?_
    refine a_iinc dX10_layCalm_173 (v := x9 + (nI 1)) rfl (by rfl) (by decide) rfl ?_
    refine a_iinc dX10_layCalm_176 (v := x11 + (-1 : Int32)) rfl (by rfl) (by decide) rfl ?_
    refine a_goto 66 dX10_layCalm_179 (by decide) ?_
    refine dh_drop 12 ?_
    exact k
  · replace k := k.2 c1
    refine a_aload_n dX10_layCalm_131 rfl ?_
    refine a_iload dX10_layCalm_132 rfl ?_
    refine a_iload dX10_layCalm_134 rfl ?_
    exact a_callV2 dX10_layCalm_136 (dh_Y_up cY_RX10_173 (by decide)) rfl rfl (Nat.le_of_ble_eq_true rfl) k
set_option maxRecDepth 100000 in
theorem w_X10_layCalm_139 {G : dh_G} {x1 x2 x3 x4 x5 x6 x7 x8 x9 x11 x12 s0 : Int32} {h : dh_H} {Q : Option Value → dh_H → Prop} (k : ((s0 = 0) → dh_J G mX10_layCalm 66 [some (.ref 61), some (.int (x1)), some (.int (x2)), some (.int (x3)), some (.int (x4)), some (.int (x5)), some (.int (x6)), some (.int (x7)), some (.int (x8 ||| ((nI 1) <<< (x12 &&& 31)))), some (.int (x9 + (nI 1))), some (.int (nI 0)), some (.int (x11 + (-1 : Int32))), none] [] h Q) ∧ ((¬ s0 = 0) → ((x1 = 0) → dh_J G mX10_layCalm 66 [some (.ref 61), some (.int (x1)), some (.int (x2)), some (.int (x3)), some (.int (x4)), some (.int (x5)), some (.int (x6)), some (.int (x7)), some (.int (x8 ||| ((nI 1) <<< (x12 &&& 31)))), some (.int (x9 + (nI 1))), some (.int (nI 1)), some (.int (x11 + (-1 : Int32))), none] [] h Q) ∧ ((¬ x1 = 0) → dh_C G mX10_isSafe [.ref 61, .int (x11), .int (x12)] h (fun v h1 => dh_J G mX10_layCalm 154 [some (.ref 61), some (.int (x1)), some (.int (x2)), some (.int (x3)), some (.int (x4)), some (.int (x5)), some (.int (x6)), some (.int (x7)), some (.int (x8)), some (.int (x9)), none, some (.int (x11)), some (.int (x12))] (v.toList ++ []) h1 Q)))) : dh_J G mX10_layCalm 139 [some (.ref 61), some (.int (x1)), some (.int (x2)), some (.int (x3)), some (.int (x4)), some (.int (x5)), some (.int (x6)), some (.int (x7)), some (.int (x8)), some (.int (x9)), none, some (.int (x11)), some (.int (x12))] [.int (s0)] h Q := by
  refine a_if_eq 161 dX10_layCalm_139 (by decide) (fun c1 => ?_) (fun c1 => ?_)
  · replace k := k.1 c1
    refine a_iconst dX10_layCalm_161 (v := nI 0) (by decide) ?_
    refine a_istore dX10_layCalm_162 (by decide) rfl ?_
    refine a_iload dX10_layCalm_164 rfl ?_
    refine a_iconst dX10_layCalm_166 (v := nI 1) (by decide) ?_
    refine a_iload dX10_layCalm_167 rfl ?_
    refine a_ishl dX10_layCalm_169 ?_
    refine a_ior dX10_layCalm_170 ?_
    refine a_istore dX10_layCalm_171 (by decide) rfl ?_
    refine a_iinc dX10_layCalm_173 (v := x9 + (nI 1)) rfl (by rfl) (by decide) rfl ?_
    refine a_iinc dX10_layCalm_176 (v := x11 + (-1 : Int32)) rfl (by rfl) (by decide) rfl ?_
    refine a_goto 66 dX10_layCalm_179 (by decide) ?_
    refine dh_drop 12 ?_
    exact k
  · replace k := k.2 c1
    refine a_iload_n dX10_layCalm_142 rfl ?_
    refine a_if_eq 157 dX10_layCalm_143 (by decide) (fun c2 => ?_) (fun c2 => ?_)
    · replace k := k.1 c2
      refine a_iconst dX10_layCalm_157 (v := nI 1) (by decide) ?_
      refine a_goto 162 dX10_layCalm_158 (by decide) ?_
      refine a_istore dX10_layCalm_162 (by decide) rfl ?_
      refine a_iload dX10_layCalm_164 rfl ?_
      refine a_iconst dX10_layCalm_166 (v := nI 1) (by decide) ?_
      refine a_iload dX10_layCalm_167 rfl ?_
      refine a_ishl dX10_layCalm_169 ?_
      refine a_ior dX10_layCalm_170 ?_
      refine a_istore dX10_layCalm_171 (by decide) rfl ?_
      refine a_iinc dX10_layCalm_173 (v := x9 + (nI 1)) rfl (by rfl) (by decide) rfl ?_
      refine a_iinc dX10_layCalm_176 (v := x11 + (-1 : Int32)) rfl (by rfl) (by decide) rfl ?_
      refine a_goto 66 dX10_layCalm_179 (by decide) ?_
      refine dh_drop 12 ?_
      exact k
    · replace k := k.2 c2
      refine a_aload_n dX10_layCalm_146 rfl ?_
      refine a_iload dX10_layCalm_147 rfl ?_
      refine a_iload dX10_layCalm_149 rfl ?_
      exact a_callV2 dX10_layCalm_151 (dh_Y_up cY_RX10_239 (by decide)) rfl rfl (Nat.le_of_ble_eq_true rfl) k
set_option maxRecDepth 100000 in
theorem w_X10_layCalm_154 {G : dh_G} {x1 x2 x3 x4 x5 x6 x7 x8 x9 x11 x12 s0 : Int32} {h : dh_H} {Q : Option Value → dh_H → Prop} (k : ((s0 = 0) → dh_J G mX10_layCalm 66 [some (.ref 61), some (.int (x1)), some (.int (x2)), some (.int (x3)), some (.int (x4)), some (.int (x5)), some (.int (x6)), some (.int (x7)), some (.int (x8 ||| ((nI 1) <<< (x12 &&& 31)))), some (.int (x9 + (nI 1))), some (.int (nI 0)), some (.int (x11 + (-1 : Int32))), none] [] h Q) ∧ ((¬ s0 = 0) → dh_J G mX10_layCalm 66 [some (.ref 61), some (.int (x1)), some (.int (x2)), some (.int (x3)), some (.int (x4)), some (.int (x5)), some (.int (x6)), some (.int (x7)), some (.int (x8 ||| ((nI 1) <<< (x12 &&& 31)))), some (.int (x9 + (nI 1))), some (.int (nI 1)), some (.int (x11 + (-1 : Int32))), none] [] h Q)) : dh_J G mX10_layCalm 154 [some (.ref 61), some (.int (x1)), some (.int (x2)), some (.int (x3)), some (.int (x4)), some (.int (x5)), some (.int (x6)), some (.int (x7)), some (.int (x8)), some (.int (x9)), none, some (.int (x11)), some (.int (x12))] [.int (s0)] h Q := by
  refine a_if_eq 161 dX10_layCalm_154 (by decide) (fun c1 => ?_) (fun c1 => ?_)
  · replace k := k.1 c1
    refine a_iconst dX10_layCalm_161 (v := nI 0) (by decide) ?_
    refine a_istore dX10_layCalm_162 (by decide) rfl ?_
    refine a_iload dX10_layCalm_164 rfl ?_
    refine a_iconst dX10_layCalm_166 (v := nI 1) (by decide) ?_
    refine a_iload dX10_layCalm_167 rfl ?_
    refine a_ishl dX10_layCalm_169 ?_
    refine a_ior dX10_layCalm_170 ?_
    refine a_istore dX10_layCalm_171 (by decide) rfl ?_
    refine a_iinc dX10_layCalm_173 (v := x9 + (nI 1)) rfl (by rfl) (by decide) rfl ?_
    refine a_iinc dX10_layCalm_176 (v := x11 + (-1 : Int32)) rfl (by rfl) (by decide) rfl ?_
    refine a_goto 66 dX10_layCalm_179 (by decide) ?_
    refine dh_drop 12 ?_
    exact k
  · replace k := k.2 c1
    refine a_iconst dX10_layCalm_157 (v := nI 1) (by decide) ?_
    refine a_goto 162 dX10_layCalm_158 (by decide) ?_
    refine a_istore dX10_layCalm_162 (by decide) rfl ?_
    refine a_iload dX10_layCalm_164 rfl ?_
    refine a_iconst dX10_layCalm_166 (v := nI 1) (by decide) ?_
    refine a_iload dX10_layCalm_167 rfl ?_
    refine a_ishl dX10_layCalm_169 ?_
    refine a_ior dX10_layCalm_170 ?_
    refine a_istore dX10_layCalm_171 (by decide) rfl ?_
    refine a_iinc dX10_layCalm_173 (v := x9 + (nI 1)) rfl (by rfl) (by decide) rfl ?_
    refine a_iinc dX10_layCalm_176 (v := x11 + (-1 : Int32)) rfl (by rfl) (by decide) rfl ?_
    refine a_goto 66 dX10_layCalm_179 (by decide) ?_
    refine dh_drop 12 ?_
    exact k
set_option maxRecDepth 100000 in
theorem w_X10_layCalm_213 {G : dh_G} {x1 x2 x3 x4 x5 x6 : Int32} {h : dh_H} {Q : Option Value → dh_H → Prop} (k : dh_J G mX10_layCalm 39 [some (.ref 61), some (.int (x1)), some (.int (x2)), some (.int (x3)), some (.int (x4)), some (.int (x5)), some (.int (x6 + (nI 1))), none, none, none, none, none, none] [] h Q) : dh_J G mX10_layCalm 213 [some (.ref 61), some (.int (x1)), some (.int (x2)), some (.int (x3)), some (.int (x4)), some (.int (x5)), some (.int (x6)), none, none, none, none, none, none] [] h Q := by
  refine a_iinc dX10_layCalm_213 (v := x6 + (nI 1)) rfl (by rfl) (by decide) rfl ?_
  refine a_goto 39 dX10_layCalm_216 (by decide) ?_
  exact k
set_option maxRecDepth 100000 in
theorem w_X10_mostCalm_0 {G : dh_G} {x1 x2 : Int32} {h : dh_H} {Q : Option Value → dh_H → Prop} (k : ((x2 = (-1 : Int32)) → dh_C G mX10_layCalm [.ref 61, .int (x1), .int (nI 0)] h (fun v h1 => dh_J G mX10_mostCalm 22 [some (.ref 61), none, some (.int (x2)), none] (v.toList ++ []) h1 Q)) ∧ ((¬ x2 = (-1 : Int32)) → dh_C G mX10_isChild [.ref 61, .int (x2)] h (fun v h1 => dh_J G mX10_mostCalm 10 [some (.ref 61), some (.int (x1)), some (.int (x2)), none] (v.toList ++ []) h1 Q))) : dh_J G mX10_mostCalm 0 [some (.ref 61), some (.int (x1)), some (.int (x2)), none] [] h Q := by
  refine a_iload_n dX10_mostCalm_0 rfl ?_
  refine a_iconst dX10_mostCalm_1 (v := (-1 : Int32)) (by decide) ?_
  refine a_icmp_eq 16 dX10_mostCalm_2 (by decide) (fun c1 => ?_) (fun c1 => ?_)
  · replace k := k.1 c1
    refine a_aload_n dX10_mostCalm_16 rfl ?_
    refine a_iload_n dX10_mostCalm_17 rfl ?_
    refine a_iconst dX10_mostCalm_18 (v := nI 0) (by decide) ?_
    refine dh_drop 1 ?_
    exact a_callV2 dX10_mostCalm_19 (dh_Y_up cY_RX10_242 (by decide)) rfl rfl (Nat.le_of_ble_eq_true rfl) k
  · replace k := k.2 c1
    refine a_aload_n dX10_mostCalm_5 rfl ?_
    refine a_iload_n dX10_mostCalm_6 rfl ?_
    exact a_callV1 dX10_mostCalm_7 (dh_Y_up cY_RX10_189 (by decide)) rfl rfl (Nat.le_of_ble_eq_true rfl) k
theorem e_X10_mostCalm {G : dh_G} {x1 x2 : Int32} {h : dh_H} {Q : Option Value → dh_H → Prop} (k : ((x2 = (-1 : Int32)) → dh_C G mX10_layCalm [.ref 61, .int (x1), .int (nI 0)] h (fun v h1 => dh_J G mX10_mostCalm 22 [some (.ref 61), none, some (.int (x2)), none] (v.toList ++ []) h1 Q)) ∧ ((¬ x2 = (-1 : Int32)) → dh_C G mX10_isChild [.ref 61, .int (x2)] h (fun v h1 => dh_J G mX10_mostCalm 10 [some (.ref 61), some (.int (x1)), some (.int (x2)), none] (v.toList ++ []) h1 Q))) : dh_C G mX10_mostCalm [.ref 61, .int (x1), .int (x2)] h Q := dh_C_of [some (.ref 61), some (.int (x1)), some (.int (x2)), none] (by decide) (Nat.le_of_ble_eq_true rfl) rfl (w_X10_mostCalm_0 k)
set_option maxRecDepth 100000 in
theorem w_X10_mostCalm_10 {G : dh_G} {x1 x2 s0 : Int32} {h : dh_H} {Q : Option Value → dh_H → Prop} (k : ((¬ s0 = 0) → dh_C G mX10_layCalm [.ref 61, .int (x1), .int (nI 0)] h (fun v h1 => dh_J G mX10_mostCalm 22 [some (.ref 61), none, some (.int (x2)), none] (v.toList ++ []) h1 Q)) ∧ ((s0 = 0) → Q (some (.int ((-1000000001 : Int32)))) h)) : dh_J G mX10_mostCalm 10 [some (.ref 61), some (.int (x1)), some (.int (x2)), none] [.int (s0)] h Q := by
  refine a_if_ne 16 dX10_mostCalm_10 (by decide) (fun c1 => ?_) (fun c1 => ?_)
  · replace k := k.1 c1
    refine a_aload_n dX10_mostCalm_16 rfl ?_
    refine a_iload_n dX10_mostCalm_17 rfl ?_
    refine a_iconst dX10_mostCalm_18 (v := nI 0) (by decide) ?_
    refine dh_drop 1 ?_
    exact a_callV2 dX10_mostCalm_19 (dh_Y_up cY_RX10_242 (by decide)) rfl rfl (Nat.le_of_ble_eq_true rfl) k
  · replace k := k.2 c1
    refine a_ldc dX10_mostCalm_13 (v := (-1000000001 : Int32)) kK_RX10_192 ?_
    exact a_iret dX10_mostCalm_15 rfl k
set_option maxRecDepth 100000 in
theorem w_X10_mostCalm_22 {G : dh_G} {x2 s0 : Int32} {h : dh_H} {Q : Option Value → dh_H → Prop} (k : ((¬ x2 = (-1 : Int32)) → (vp_in x2 6) ∧ Q (some (.int (h 76 x2.toNatClampNeg))) h) ∧ ((x2 = (-1 : Int32)) → Q (some (.int (s0))) h)) : dh_J G mX10_mostCalm 22 [some (.ref 61), none, some (.int (x2)), none] [.int (s0)] h Q := by
  refine a_istore_n dX10_mostCalm_22 (by decide) rfl ?_
  refine a_iload_n dX10_mostCalm_23 rfl ?_
  refine a_iconst dX10_mostCalm_24 (v := (-1 : Int32)) (by decide) ?_
  refine a_icmp_ne 32 dX10_mostCalm_25 (by decide) (fun c1 => ?_) (fun c1 => ?_)
  · replace k := k.1 c1
    refine a_aload_n dX10_mostCalm_32 rfl ?_
    refine a_getR dX10_mostCalm_33 fF_RX10_57 rfl rfl ?_
    refine a_iload_n dX10_mostCalm_36 rfl ?_
    obtain ⟨e2, k⟩ := k
    refine a_iald dX10_mostCalm_37 rfl e2 ?_
    exact a_iret dX10_mostCalm_38 rfl k
  · replace k := k.2 c1
    refine a_iload_n dX10_mostCalm_28 rfl ?_
    refine a_goto 38 dX10_mostCalm_29 (by decide) ?_
    exact a_iret dX10_mostCalm_38 rfl k
set_option maxRecDepth 100000 in
theorem w_X10_trades_0 {G : dh_G} {x1 : Int32} {h : dh_H} {Q : Option Value → dh_H → Prop} (k : dh_J G mX10_trades 4 [some (.ref 61), some (.int (x1)), some (.int (nI 0)), some (.int (nI 0)), none, none, none, none, none] [] h Q) : dh_J G mX10_trades 0 [some (.ref 61), some (.int (x1)), none, none, none, none, none, none, none] [] h Q := by
  refine a_iconst dX10_trades_0 (v := nI 0) (by decide) ?_
  refine a_istore_n dX10_trades_1 (by decide) rfl ?_
  refine a_iconst dX10_trades_2 (v := nI 0) (by decide) ?_
  refine a_istore_n dX10_trades_3 (by decide) rfl ?_
  exact k
theorem e_X10_trades {G : dh_G} {x1 : Int32} {h : dh_H} {Q : Option Value → dh_H → Prop} (k : dh_J G mX10_trades 4 [some (.ref 61), some (.int (x1)), some (.int (nI 0)), some (.int (nI 0)), none, none, none, none, none] [] h Q) : dh_C G mX10_trades [.ref 61, .int (x1)] h Q := dh_C_of [some (.ref 61), some (.int (x1)), none, none, none, none, none, none, none] (by decide) (Nat.le_of_ble_eq_true rfl) rfl (w_X10_trades_0 k)
set_option maxRecDepth 100000 in
theorem w_X10_trades_4 {G : dh_G} {x1 x2 x3 : Int32} {h : dh_H} {Q : Option Value → dh_H → Prop} (k : (((h 61 19) ≤ x3) → ((¬ x1 = (-1 : Int32)) → Q (some (.int ((-1 : Int32)))) h) ∧ ((x1 = (-1 : Int32)) → Q (some (.int (x2))) h)) ∧ ((¬ (h 61 19) ≤ x3) → dh_J G mX10_trades 17 [some (.ref 61), some (.int (x1)), some (.int (x2)), some (.int (x3)), some (.int (x3 + (nI 1))), none, none, none, none] [] h Q)) : dh_J G mX10_trades 4 [some (.ref 61), some (.int (x1)), some (.int (x2)), some (.int (x3)), none, none, none, none, none] [] h Q := by
  refine a_iload_n dX10_trades_4 rfl ?_
  refine a_aload_n dX10_trades_5 rfl ?_
  refine a_getI dX10_trades_6 fF_RX10_66 rfl rfl ?_
  refine a_icmp_ge 158 dX10_trades_9 (by decide) (fun c1 => ?_) (fun c1 => ?_)
  · replace k := k.1 c1
    refine a_iload_n dX10_trades_158 rfl ?_
    refine a_iconst dX10_trades_159 (v := (-1 : Int32)) (by decide) ?_
    refine a_icmp_ne 167 dX10_trades_160 (by decide) (fun c2 => ?_) (fun c2 => ?_)
    · replace k := k.1 c2
      refine a_iconst dX10_trades_167 (v := (-1 : Int32)) (by decide) ?_
      exact a_iret dX10_trades_168 rfl k
    · replace k := k.2 c2
      refine a_iload_n dX10_trades_163 rfl ?_
      refine a_goto 168 dX10_trades_164 (by decide) ?_
      exact a_iret dX10_trades_168 rfl k
  · replace k := k.2 c1
    refine a_iload_n dX10_trades_12 rfl ?_
    refine a_iconst dX10_trades_13 (v := nI 1) (by decide) ?_
    refine a_iadd dX10_trades_14 ?_
    refine a_istore dX10_trades_15 (by decide) rfl ?_
    exact k
set_option maxRecDepth 100000 in
theorem w_X10_trades_17 {G : dh_G} {x1 x2 x3 x4 : Int32} {h : dh_H} {Q : Option Value → dh_H → Prop} (k : (((h 61 19) ≤ x4) → dh_J G mX10_trades 4 [some (.ref 61), some (.int (x1)), some (.int (x2)), some (.int (x3 + (nI 1))), none, none, none, none, none] [] h Q) ∧ ((¬ (h 61 19) ≤ x4) → (vp_in ((nI 1) + x3) 32) ∧ (vp_in ((nI 1) + x4) 32) ∧ (((h 68 ((nI 1) + x3).toNatClampNeg) = (-1 : Int32)) → dh_J G mX10_trades 17 [some (.ref 61), some (.int (x1)), some (.int (x2)), some (.int (x3)), some (.int (x4 + (nI 1))), none, none, none, none] [] h Q) ∧ ((¬ (h 68 ((nI 1) + x3).toNatClampNeg) = (-1 : Int32)) → (((h 68 ((nI 1) + x4).toNatClampNeg) = (-1 : Int32)) → dh_J G mX10_trades 17 [some (.ref 61), some (.int (x1)), some (.int (x2)), some (.int (x3)), some (.int (x4 + (nI 1))), none, none, none, none] [] h Q) ∧ ((¬ (h 68 ((nI 1) + x4).toNatClampNeg) = (-1 : Int32)) → dh_C G mX10_isCalm [.ref 61, .int (x3)] h (fun v h1 => dh_J G mX10_trades 64 [some (.ref 61), some (.int (x1)), some (.int (x2)), some (.int (x3)), some (.int (x4)), some (.int (h 68 ((nI 1) + x3).toNatClampNeg)), some (.int (h 68 ((nI 1) + x4).toNatClampNeg)), none, none] (v.toList ++ []) h1 Q))))) : dh_J G mX10_trades 17 [some (.ref 61), some (.int (x1)), some (.int (x2)), some (.int (x3)), some (.int (x4)), none, none, none, none] [] h Q := by
  refine a_iload dX10_trades_17 rfl ?_
  refine a_aload_n dX10_trades_19 rfl ?_
  refine a_getI dX10_trades_20 fF_RX10_66 rfl rfl ?_
  refine a_icmp_ge 152 dX10_trades_23 (by decide) (fun c1 => ?_) (fun c1 => ?_)
  · replace k := k.1 c1
    refine a_iinc dX10_trades_152 (v := x3 + (nI 1)) rfl (by rfl) (by decide) rfl ?_
    refine a_goto 4 dX10_trades_155 (by decide) ?_
    refine dh_drop 4 ?_
    exact k
  · replace k := k.2 c1
    refine a_aload_n dX10_trades_26 rfl ?_
    refine a_getR dX10_trades_27 fF_RX10_32 rfl rfl ?_
    refine a_iconst dX10_trades_30 (v := nI 1) (by decide) ?_
    refine a_iload_n dX10_trades_31 rfl ?_
    refine a_iadd dX10_trades_32 ?_
    obtain ⟨e2, k⟩ := k
    refine a_iald dX10_trades_33 rfl e2 ?_
    refine a_istore dX10_trades_34 (by decide) rfl ?_
    refine a_aload_n dX10_trades_36 rfl ?_
    refine a_getR dX10_trades_37 fF_RX10_32 rfl rfl ?_
    refine a_iconst dX10_trades_40 (v := nI 1) (by decide) ?_
    refine a_iload dX10_trades_41 rfl ?_
    refine a_iadd dX10_trades_43 ?_
    obtain ⟨e3, k⟩ := k
    refine a_iald dX10_trades_44 rfl e3 ?_
    refine a_istore dX10_trades_45 (by decide) rfl ?_
    refine a_iload dX10_trades_47 rfl ?_
    refine a_iconst dX10_trades_49 (v := (-1 : Int32)) (by decide) ?_
    refine a_icmp_eq 146 dX10_trades_50 (by decide) (fun c4 => ?_) (fun c4 => ?_)
    · replace k := k.1 c4
      refine a_iinc dX10_trades_146 (v := x4 + (nI 1)) rfl (by rfl) (by decide) rfl ?_
      refine a_goto 17 dX10_trades_149 (by decide) ?_
      refine dh_drop 5 ?_
      refine dh_drop 6 ?_
      exact k
    · replace k := k.2 c4
      refine a_iload dX10_trades_53 rfl ?_
      refine a_iconst dX10_trades_55 (v := (-1 : Int32)) (by decide) ?_
      refine a_icmp_eq 146 dX10_trades_56 (by decide) (fun c5 => ?_) (fun c5 => ?_)
      · replace k := k.1 c5
        refine a_iinc dX10_trades_146 (v := x4 + (nI 1)) rfl (by rfl) (by decide) rfl ?_
        refine a_goto 17 dX10_trades_149 (by decide) ?_
        refine dh_drop 5 ?_
        refine dh_drop 6 ?_
        exact k
      · replace k := k.2 c5
        refine a_aload_n dX10_trades_59 rfl ?_
        refine a_iload_n dX10_trades_60 rfl ?_
        exact a_callV1 dX10_trades_61 (dh_Y_up cY_RX10_176 (by decide)) rfl rfl (Nat.le_of_ble_eq_true rfl) k
set_option maxRecDepth 100000 in
theorem w_X10_trades_64 {G : dh_G} {x1 x2 x3 x4 x5 x6 s0 : Int32} {h : dh_H} {Q : Option Value → dh_H → Prop} (k : ((s0 = 0) → dh_C G mX10_isCalm [.ref 61, .int (x4)] h (fun v h1 => dh_J G mX10_trades 78 [some (.ref 61), some (.int (x1)), some (.int (x2)), some (.int (x3)), some (.int (x4)), some (.int (x5)), some (.int (x6)), none, none] (v.toList ++ [.int (nI 0)]) h1 Q)) ∧ ((¬ s0 = 0) → dh_C G mX10_isCalm [.ref 61, .int (x4)] h (fun v h1 => dh_J G mX10_trades 78 [some (.ref 61), some (.int (x1)), some (.int (x2)), some (.int (x3)), some (.int (x4)), some (.int (x5)), some (.int (x6)), none, none] (v.toList ++ [.int (nI 1)]) h1 Q))) : dh_J G mX10_trades 64 [some (.ref 61), some (.int (x1)), some (.int (x2)), some (.int (x3)), some (.int (x4)), some (.int (x5)), some (.int (x6)), none, none] [.int (s0)] h Q := by
  refine a_if_eq 71 dX10_trades_64 (by decide) (fun c1 => ?_) (fun c1 => ?_)
  · replace k := k.1 c1
    refine a_iconst dX10_trades_71 (v := nI 0) (by decide) ?_
    refine a_aload_n dX10_trades_72 rfl ?_
    refine a_iload dX10_trades_73 rfl ?_
    exact a_callV1 dX10_trades_75 (dh_Y_up cY_RX10_176 (by decide)) rfl rfl (Nat.le_of_ble_eq_true rfl) k
  · replace k := k.2 c1
    refine a_iconst dX10_trades_67 (v := nI 1) (by decide) ?_
    refine a_goto 72 dX10_trades_68 (by decide) ?_
    refine a_aload_n dX10_trades_72 rfl ?_
    refine a_iload dX10_trades_73 rfl ?_
    exact a_callV1 dX10_trades_75 (dh_Y_up cY_RX10_176 (by decide)) rfl rfl (Nat.le_of_ble_eq_true rfl) k
set_option maxRecDepth 100000 in
theorem w_X10_trades_78 {G : dh_G} {x1 x2 x3 x4 x5 x6 s0 s1 : Int32} {h : dh_H} {Q : Option Value → dh_H → Prop} (k : ((s1 = 0) → dh_C G mX10_takes [.ref 61, .int (x3), .int (x6)] h (fun v h1 => dh_J G mX10_trades 96 [some (.ref 61), some (.int (x1)), some (.int (x2)), some (.int (x3)), some (.int (x4)), some (.int (x5)), none, some (.int (s0 + (nI 0))), none] (v.toList ++ []) h1 Q)) ∧ ((¬ s1 = 0) → dh_C G mX10_takes [.ref 61, .int (x3), .int (x6)] h (fun v h1 => dh_J G mX10_trades 96 [some (.ref 61), some (.int (x1)), some (.int (x2)), some (.int (x3)), some (.int (x4)), some (.int (x5)), none, some (.int (s0 + (nI 1))), none] (v.toList ++ []) h1 Q))) : dh_J G mX10_trades 78 [some (.ref 61), some (.int (x1)), some (.int (x2)), some (.int (x3)), some (.int (x4)), some (.int (x5)), some (.int (x6)), none, none] [.int (s1), .int (s0)] h Q := by
  refine a_if_eq 85 dX10_trades_78 (by decide) (fun c1 => ?_) (fun c1 => ?_)
  · replace k := k.1 c1
    refine a_iconst dX10_trades_85 (v := nI 0) (by decide) ?_
    refine a_iadd dX10_trades_86 ?_
    refine a_istore dX10_trades_87 (by decide) rfl ?_
    refine a_aload_n dX10_trades_89 rfl ?_
    refine a_iload_n dX10_trades_90 rfl ?_
    refine a_iload dX10_trades_91 rfl ?_
    refine dh_drop 6 ?_
    exact a_callV2 dX10_trades_93 (dh_Y_up cY_RX10_173 (by decide)) rfl rfl (Nat.le_of_ble_eq_true rfl) k
  · replace k := k.2 c1
    refine a_iconst dX10_trades_81 (v := nI 1) (by decide) ?_
    refine a_goto 86 dX10_trades_82 (by decide) ?_
    refine a_iadd dX10_trades_86 ?_
    refine a_istore dX10_trades_87 (by decide) rfl ?_
    refine a_aload_n dX10_trades_89 rfl ?_
    refine a_iload_n dX10_trades_90 rfl ?_
    refine a_iload dX10_trades_91 rfl ?_
    refine dh_drop 6 ?_
    exact a_callV2 dX10_trades_93 (dh_Y_up cY_RX10_173 (by decide)) rfl rfl (Nat.le_of_ble_eq_true rfl) k
set_option maxRecDepth 100000 in
theorem w_X10_trades_96 {G : dh_G} {x1 x2 x3 x4 x5 x7 s0 : Int32} {h : dh_H} {Q : Option Value → dh_H → Prop} (k : ((s0 = 0) → dh_C G mX10_takes [.ref 61, .int (x4), .int (x5)] h (fun v h1 => dh_J G mX10_trades 112 [some (.ref 61), some (.int (x1)), some (.int (x2)), some (.int (x3)), some (.int (x4)), none, none, some (.int (x7)), none] (v.toList ++ [.int (nI 0)]) h1 Q)) ∧ ((¬ s0 = 0) → dh_C G mX10_takes [.ref 61, .int (x4), .int (x5)] h (fun v h1 => dh_J G mX10_trades 112 [some (.ref 61), some (.int (x1)), some (.int (x2)), some (.int (x3)), some (.int (x4)), none, none, some (.int (x7)), none] (v.toList ++ [.int (nI 1)]) h1 Q))) : dh_J G mX10_trades 96 [some (.ref 61), some (.int (x1)), some (.int (x2)), some (.int (x3)), some (.int (x4)), some (.int (x5)), none, some (.int (x7)), none] [.int (s0)] h Q := by
  refine a_if_eq 103 dX10_trades_96 (by decide) (fun c1 => ?_) (fun c1 => ?_)
  · replace k := k.1 c1
    refine a_iconst dX10_trades_103 (v := nI 0) (by decide) ?_
    refine a_aload_n dX10_trades_104 rfl ?_
    refine a_iload dX10_trades_105 rfl ?_
    refine a_iload dX10_trades_107 rfl ?_
    refine dh_drop 5 ?_
    exact a_callV2 dX10_trades_109 (dh_Y_up cY_RX10_173 (by decide)) rfl rfl (Nat.le_of_ble_eq_true rfl) k
  · replace k := k.2 c1
    refine a_iconst dX10_trades_99 (v := nI 1) (by decide) ?_
    refine a_goto 104 dX10_trades_100 (by decide) ?_
    refine a_aload_n dX10_trades_104 rfl ?_
    refine a_iload dX10_trades_105 rfl ?_
    refine a_iload dX10_trades_107 rfl ?_
    refine dh_drop 5 ?_
    exact a_callV2 dX10_trades_109 (dh_Y_up cY_RX10_173 (by decide)) rfl rfl (Nat.le_of_ble_eq_true rfl) k
set_option maxRecDepth 100000 in
theorem w_X10_trades_112 {G : dh_G} {x1 x2 x3 x4 x7 s0 s1 : Int32} {h : dh_H} {Q : Option Value → dh_H → Prop} (k : ((s1 = 0) → (((s0 + (nI 0)) ≤ x7) → dh_J G mX10_trades 17 [some (.ref 61), some (.int (x1)), some (.int (x2)), some (.int (x3)), some (.int (x4 + (nI 1))), none, none, none, none] [] h Q) ∧ ((¬ (s0 + (nI 0)) ≤ x7) → ((¬ x2 = x1) → dh_J G mX10_trades 17 [some (.ref 61), some (.int (x1)), some (.int (x2 + (nI 1))), some (.int (x3)), some (.int (x4 + (nI 1))), none, none, none, none] [] h Q) ∧ ((x2 = x1) → Q (some (.int (((nI 10) * x3) + x4))) h))) ∧ ((¬ s1 = 0) → (((s0 + (nI 1)) ≤ x7) → dh_J G mX10_trades 17 [some (.ref 61), some (.int (x1)), some (.int (x2)), some (.int (x3)), some (.int (x4 + (nI 1))), none, none, none, none] [] h Q) ∧ ((¬ (s0 + (nI 1)) ≤ x7) → ((¬ x2 = x1) → dh_J G mX10_trades 17 [some (.ref 61), some (.int (x1)), some (.int (x2 + (nI 1))), some (.int (x3)), some (.int (x4 + (nI 1))), none, none, none, none] [] h Q) ∧ ((x2 = x1) → Q (some (.int (((nI 10) * x3) + x4))) h)))) : dh_J G mX10_trades 112 [some (.ref 61), some (.int (x1)), some (.int (x2)), some (.int (x3)), some (.int (x4)), none, none, some (.int (x7)), none] [.int (s1), .int (s0)] h Q := by
  refine a_if_eq 119 dX10_trades_112 (by decide) (fun c1 => ?_) (fun c1 => ?_)
  · replace k := k.1 c1
    refine a_iconst dX10_trades_119 (v := nI 0) (by decide) ?_
    refine a_iadd dX10_trades_120 ?_
    refine a_istore dX10_trades_121 (by decide) rfl ?_
    refine a_iload dX10_trades_123 rfl ?_
    refine a_iload dX10_trades_125 rfl ?_
    refine a_icmp_le 146 dX10_trades_127 (by decide) (fun c2 => ?_) (fun c2 => ?_)
    · replace k := k.1 c2
      refine a_iinc dX10_trades_146 (v := x4 + (nI 1)) rfl (by rfl) (by decide) rfl ?_
      refine a_goto 17 dX10_trades_149 (by decide) ?_
      refine dh_drop 7 ?_
      refine dh_drop 8 ?_
      exact k
    · replace k := k.2 c2
      refine a_iload_n dX10_trades_130 rfl ?_
      refine a_iload_n dX10_trades_131 rfl ?_
      refine a_icmp_ne 143 dX10_trades_132 (by decide) (fun c3 => ?_) (fun c3 => ?_)
      · replace k := k.1 c3
        refine a_iinc dX10_trades_143 (v := x2 + (nI 1)) rfl (by rfl) (by decide) rfl ?_
        refine a_iinc dX10_trades_146 (v := x4 + (nI 1)) rfl (by rfl) (by decide) rfl ?_
        refine a_goto 17 dX10_trades_149 (by decide) ?_
        refine dh_drop 7 ?_
        refine dh_drop 8 ?_
        exact k
      · replace k := k.2 c3
        refine a_bipush dX10_trades_135 (v := nI 10) (by decide) ?_
        refine a_iload_n dX10_trades_137 rfl ?_
        refine a_imul dX10_trades_138 ?_
        refine a_iload dX10_trades_139 rfl ?_
        refine a_iadd dX10_trades_141 ?_
        exact a_iret dX10_trades_142 rfl k
  · replace k := k.2 c1
    refine a_iconst dX10_trades_115 (v := nI 1) (by decide) ?_
    refine a_goto 120 dX10_trades_116 (by decide) ?_
    refine a_iadd dX10_trades_120 ?_
    refine a_istore dX10_trades_121 (by decide) rfl ?_
    refine a_iload dX10_trades_123 rfl ?_
    refine a_iload dX10_trades_125 rfl ?_
    refine a_icmp_le 146 dX10_trades_127 (by decide) (fun c4 => ?_) (fun c4 => ?_)
    · replace k := k.1 c4
      refine a_iinc dX10_trades_146 (v := x4 + (nI 1)) rfl (by rfl) (by decide) rfl ?_
      refine a_goto 17 dX10_trades_149 (by decide) ?_
      refine dh_drop 7 ?_
      refine dh_drop 8 ?_
      exact k
    · replace k := k.2 c4
      refine a_iload_n dX10_trades_130 rfl ?_
      refine a_iload_n dX10_trades_131 rfl ?_
      refine a_icmp_ne 143 dX10_trades_132 (by decide) (fun c5 => ?_) (fun c5 => ?_)
      · replace k := k.1 c5
        refine a_iinc dX10_trades_143 (v := x2 + (nI 1)) rfl (by rfl) (by decide) rfl ?_
        refine a_iinc dX10_trades_146 (v := x4 + (nI 1)) rfl (by rfl) (by decide) rfl ?_
        refine a_goto 17 dX10_trades_149 (by decide) ?_
        refine dh_drop 7 ?_
        refine dh_drop 8 ?_
        exact k
      · replace k := k.2 c5
        refine a_bipush dX10_trades_135 (v := nI 10) (by decide) ?_
        refine a_iload_n dX10_trades_137 rfl ?_
        refine a_imul dX10_trades_138 ?_
        refine a_iload dX10_trades_139 rfl ?_
        refine a_iadd dX10_trades_141 ?_
        exact a_iret dX10_trades_142 rfl k
set_option maxRecDepth 100000 in
theorem w_X10_wants_0 {G : dh_G} {x1 : Int32} {h : dh_H} {Q : Option Value → dh_H → Prop} (k : dh_C G mX10_isChild [.ref 61, .int (x1)] h (fun v h1 => dh_J G mX10_wants 5 [some (.ref 61), some (.int (x1)), none, none] (v.toList ++ []) h1 Q)) : dh_J G mX10_wants 0 [some (.ref 61), some (.int (x1)), none, none] [] h Q := by
  refine a_aload_n dX10_wants_0 rfl ?_
  refine a_iload_n dX10_wants_1 rfl ?_
  exact a_callV1 dX10_wants_2 (dh_Y_up cY_RX10_189 (by decide)) rfl rfl (Nat.le_of_ble_eq_true rfl) k
theorem e_X10_wants {G : dh_G} {x1 : Int32} {h : dh_H} {Q : Option Value → dh_H → Prop} (k : dh_C G mX10_isChild [.ref 61, .int (x1)] h (fun v h1 => dh_J G mX10_wants 5 [some (.ref 61), some (.int (x1)), none, none] (v.toList ++ []) h1 Q)) : dh_C G mX10_wants [.ref 61, .int (x1)] h Q := dh_C_of [some (.ref 61), some (.int (x1)), none, none] (by decide) (Nat.le_of_ble_eq_true rfl) rfl (w_X10_wants_0 k)
set_option maxRecDepth 100000 in
theorem w_X10_wants_5 {G : dh_G} {x1 s0 : Int32} {h : dh_H} {Q : Option Value → dh_H → Prop} (k : ((¬ s0 = 0) → dh_J G mX10_wants 15 [some (.ref 61), some (.int (x1)), some (.int (nI 0)), some (.int (nI 0))] [] h Q) ∧ ((s0 = 0) → Q (some (.int ((-1000000001 : Int32)))) h)) : dh_J G mX10_wants 5 [some (.ref 61), some (.int (x1)), none, none] [.int (s0)] h Q := by
  refine a_if_ne 11 dX10_wants_5 (by decide) (fun c1 => ?_) (fun c1 => ?_)
  · replace k := k.1 c1
    refine a_iconst dX10_wants_11 (v := nI 0) (by decide) ?_
    refine a_istore_n dX10_wants_12 (by decide) rfl ?_
    refine a_iconst dX10_wants_13 (v := nI 0) (by decide) ?_
    refine a_istore_n dX10_wants_14 (by decide) rfl ?_
    exact k
  · replace k := k.2 c1
    refine a_ldc dX10_wants_8 (v := (-1000000001 : Int32)) kK_RX10_192 ?_
    exact a_iret dX10_wants_10 rfl k
set_option maxRecDepth 100000 in
theorem w_X10_wants_15 {G : dh_G} {x1 x2 x3 : Int32} {h : dh_H} {Q : Option Value → dh_H → Prop} (k : (((h 61 20) ≤ x3) → Q (some (.int (x2))) h) ∧ ((¬ (h 61 20) ≤ x3) → dh_C G mX10_takes [.ref 61, .int (x1), .int (x3)] h (fun v h1 => dh_J G mX10_wants 30 [some (.ref 61), some (.int (x1)), none, some (.int (x3))] (v.toList ++ [.int (x2)]) h1 Q))) : dh_J G mX10_wants 15 [some (.ref 61), some (.int (x1)), some (.int (x2)), some (.int (x3))] [] h Q := by
  refine a_iload_n dX10_wants_15 rfl ?_
  refine a_aload_n dX10_wants_16 rfl ?_
  refine a_getI dX10_wants_17 fF_RX10_73 rfl rfl ?_
  refine a_icmp_ge 46 dX10_wants_20 (by decide) (fun c1 => ?_) (fun c1 => ?_)
  · replace k := k.1 c1
    refine a_iload_n dX10_wants_46 rfl ?_
    exact a_iret dX10_wants_47 rfl k
  · replace k := k.2 c1
    refine a_iload_n dX10_wants_23 rfl ?_
    refine a_aload_n dX10_wants_24 rfl ?_
    refine a_iload_n dX10_wants_25 rfl ?_
    refine a_iload_n dX10_wants_26 rfl ?_
    refine dh_drop 2 ?_
    exact a_callV2 dX10_wants_27 (dh_Y_up cY_RX10_173 (by decide)) rfl rfl (Nat.le_of_ble_eq_true rfl) k
set_option maxRecDepth 100000 in
theorem w_X10_wants_30 {G : dh_G} {x1 x3 s0 s1 : Int32} {h : dh_H} {Q : Option Value → dh_H → Prop} (k : ((s1 = 0) → dh_J G mX10_wants 15 [some (.ref 61), some (.int (x1)), some (.int (s0 + (nI 0))), some (.int (x3 + (nI 1)))] [] h Q) ∧ ((¬ s1 = 0) → dh_J G mX10_wants 15 [some (.ref 61), some (.int (x1)), some (.int (s0 + (nI 1))), some (.int (x3 + (nI 1)))] [] h Q)) : dh_J G mX10_wants 30 [some (.ref 61), some (.int (x1)), none, some (.int (x3))] [.int (s1), .int (s0)] h Q := by
  refine a_if_eq 37 dX10_wants_30 (by decide) (fun c1 => ?_) (fun c1 => ?_)
  · replace k := k.1 c1
    refine a_iconst dX10_wants_37 (v := nI 0) (by decide) ?_
    refine a_iadd dX10_wants_38 ?_
    refine a_istore_n dX10_wants_39 (by decide) rfl ?_
    refine a_iinc dX10_wants_40 (v := x3 + (nI 1)) rfl (by rfl) (by decide) rfl ?_
    refine a_goto 15 dX10_wants_43 (by decide) ?_
    exact k
  · replace k := k.2 c1
    refine a_iconst dX10_wants_33 (v := nI 1) (by decide) ?_
    refine a_goto 38 dX10_wants_34 (by decide) ?_
    refine a_iadd dX10_wants_38 ?_
    refine a_istore_n dX10_wants_39 (by decide) rfl ?_
    refine a_iinc dX10_wants_40 (v := x3 + (nI 1)) rfl (by rfl) (by decide) rfl ?_
    refine a_goto 15 dX10_wants_43 (by decide) ?_
    exact k
set_option maxRecDepth 100000 in
theorem w_X10_wanted_0 {G : dh_G} {x1 : Int32} {h : dh_H} {Q : Option Value → dh_H → Prop} (k : dh_C G mX10_isDummy [.ref 61, .int (x1)] h (fun v h1 => dh_J G mX10_wanted 5 [some (.ref 61), some (.int (x1)), none, none] (v.toList ++ []) h1 Q)) : dh_J G mX10_wanted 0 [some (.ref 61), some (.int (x1)), none, none] [] h Q := by
  refine a_aload_n dX10_wanted_0 rfl ?_
  refine a_iload_n dX10_wanted_1 rfl ?_
  exact a_callV1 dX10_wanted_2 (dh_Y_up cY_RX10_193 (by decide)) rfl rfl (Nat.le_of_ble_eq_true rfl) k
theorem e_X10_wanted {G : dh_G} {x1 : Int32} {h : dh_H} {Q : Option Value → dh_H → Prop} (k : dh_C G mX10_isDummy [.ref 61, .int (x1)] h (fun v h1 => dh_J G mX10_wanted 5 [some (.ref 61), some (.int (x1)), none, none] (v.toList ++ []) h1 Q)) : dh_C G mX10_wanted [.ref 61, .int (x1)] h Q := dh_C_of [some (.ref 61), some (.int (x1)), none, none] (by decide) (Nat.le_of_ble_eq_true rfl) rfl (w_X10_wanted_0 k)
set_option maxRecDepth 100000 in
theorem w_X10_wanted_5 {G : dh_G} {x1 s0 : Int32} {h : dh_H} {Q : Option Value → dh_H → Prop} (k : ((¬ s0 = 0) → dh_J G mX10_wanted 15 [some (.ref 61), some (.int (x1)), some (.int (nI 0)), some (.int (nI 0))] [] h Q) ∧ ((s0 = 0) → Q (some (.int ((-1000000001 : Int32)))) h)) : dh_J G mX10_wanted 5 [some (.ref 61), some (.int (x1)), none, none] [.int (s0)] h Q := by
  refine a_if_ne 11 dX10_wanted_5 (by decide) (fun c1 => ?_) (fun c1 => ?_)
  · replace k := k.1 c1
    refine a_iconst dX10_wanted_11 (v := nI 0) (by decide) ?_
    refine a_istore_n dX10_wanted_12 (by decide) rfl ?_
    refine a_iconst dX10_wanted_13 (v := nI 0) (by decide) ?_
    refine a_istore_n dX10_wanted_14 (by decide) rfl ?_
    exact k
  · replace k := k.2 c1
    refine a_ldc dX10_wanted_8 (v := (-1000000001 : Int32)) kK_RX10_192 ?_
    exact a_iret dX10_wanted_10 rfl k
set_option maxRecDepth 100000 in
theorem w_X10_wanted_15 {G : dh_G} {x1 x2 x3 : Int32} {h : dh_H} {Q : Option Value → dh_H → Prop} (k : (((h 61 19) ≤ x3) → Q (some (.int (x2))) h) ∧ ((¬ (h 61 19) ≤ x3) → dh_C G mX10_takes [.ref 61, .int (x3), .int (x1)] h (fun v h1 => dh_J G mX10_wanted 30 [some (.ref 61), some (.int (x1)), none, some (.int (x3))] (v.toList ++ [.int (x2)]) h1 Q))) : dh_J G mX10_wanted 15 [some (.ref 61), some (.int (x1)), some (.int (x2)), some (.int (x3))] [] h Q := by
  refine a_iload_n dX10_wanted_15 rfl ?_
  refine a_aload_n dX10_wanted_16 rfl ?_
  refine a_getI dX10_wanted_17 fF_RX10_66 rfl rfl ?_
  refine a_icmp_ge 46 dX10_wanted_20 (by decide) (fun c1 => ?_) (fun c1 => ?_)
  · replace k := k.1 c1
    refine a_iload_n dX10_wanted_46 rfl ?_
    exact a_iret dX10_wanted_47 rfl k
  · replace k := k.2 c1
    refine a_iload_n dX10_wanted_23 rfl ?_
    refine a_aload_n dX10_wanted_24 rfl ?_
    refine a_iload_n dX10_wanted_25 rfl ?_
    refine a_iload_n dX10_wanted_26 rfl ?_
    refine dh_drop 2 ?_
    exact a_callV2 dX10_wanted_27 (dh_Y_up cY_RX10_173 (by decide)) rfl rfl (Nat.le_of_ble_eq_true rfl) k
set_option maxRecDepth 100000 in
theorem w_X10_wanted_30 {G : dh_G} {x1 x3 s0 s1 : Int32} {h : dh_H} {Q : Option Value → dh_H → Prop} (k : ((s1 = 0) → dh_J G mX10_wanted 15 [some (.ref 61), some (.int (x1)), some (.int (s0 + (nI 0))), some (.int (x3 + (nI 1)))] [] h Q) ∧ ((¬ s1 = 0) → dh_J G mX10_wanted 15 [some (.ref 61), some (.int (x1)), some (.int (s0 + (nI 1))), some (.int (x3 + (nI 1)))] [] h Q)) : dh_J G mX10_wanted 30 [some (.ref 61), some (.int (x1)), none, some (.int (x3))] [.int (s1), .int (s0)] h Q := by
  refine a_if_eq 37 dX10_wanted_30 (by decide) (fun c1 => ?_) (fun c1 => ?_)
  · replace k := k.1 c1
    refine a_iconst dX10_wanted_37 (v := nI 0) (by decide) ?_
    refine a_iadd dX10_wanted_38 ?_
    refine a_istore_n dX10_wanted_39 (by decide) rfl ?_
    refine a_iinc dX10_wanted_40 (v := x3 + (nI 1)) rfl (by rfl) (by decide) rfl ?_
    refine a_goto 15 dX10_wanted_43 (by decide) ?_
    exact k
  · replace k := k.2 c1
    refine a_iconst dX10_wanted_33 (v := nI 1) (by decide) ?_
    refine a_goto 38 dX10_wanted_34 (by decide) ?_
    refine a_iadd dX10_wanted_38 ?_
    refine a_istore_n dX10_wanted_39 (by decide) rfl ?_
    refine a_iinc dX10_wanted_40 (v := x3 + (nI 1)) rfl (by rfl) (by decide) rfl ?_
    refine a_goto 15 dX10_wanted_43 (by decide) ?_
    exact k
set_option maxRecDepth 100000 in
theorem w_X10_lost_0 {G : dh_G} {x1 x2 x3 : Int32} {h : dh_H} {Q : Option Value → dh_H → Prop} (k : dh_C G mX10_in [.int (x1), .int (nI 1), .int (nI 20)] h (fun v h1 => dh_J G mX10_lost 7 [some (.ref 61), some (.int (x1)), some (.int (x2)), some (.int (x3)), none, none, none] (v.toList ++ []) h1 Q)) : dh_J G mX10_lost 0 [some (.ref 61), some (.int (x1)), some (.int (x2)), some (.int (x3)), none, none, none] [] h Q := by
  refine a_iload_n dX10_lost_0 rfl ?_
  refine a_iconst dX10_lost_1 (v := nI 1) (by decide) ?_
  refine a_bipush dX10_lost_2 (v := nI 20) (by decide) ?_
  exact a_callS3 dX10_lost_4 (dh_Y_up cY_RX10_69 (by decide)) (Nat.le_of_ble_eq_true rfl) k
theorem e_X10_lost {G : dh_G} {x1 x2 x3 : Int32} {h : dh_H} {Q : Option Value → dh_H → Prop} (k : dh_C G mX10_in [.int (x1), .int (nI 1), .int (nI 20)] h (fun v h1 => dh_J G mX10_lost 7 [some (.ref 61), some (.int (x1)), some (.int (x2)), some (.int (x3)), none, none, none] (v.toList ++ []) h1 Q)) : dh_C G mX10_lost [.ref 61, .int (x1), .int (x2), .int (x3)] h Q := dh_C_of [some (.ref 61), some (.int (x1)), some (.int (x2)), some (.int (x3)), none, none, none] (by decide) (Nat.le_of_ble_eq_true rfl) rfl (w_X10_lost_0 k)
set_option maxRecDepth 100000 in
theorem w_X10_lost_7 {G : dh_G} {x1 x2 x3 s0 : Int32} {h : dh_H} {Q : Option Value → dh_H → Prop} (k : ((s0 = 0) → Q (some (.int ((-1000000002 : Int32)))) h) ∧ ((¬ s0 = 0) → dh_C G mX10_in [.int (x2), .int (nI 0), .int (nI 100)] h (fun v h1 => dh_J G mX10_lost 17 [some (.ref 61), some (.int (x1)), some (.int (x2)), some (.int (x3)), none, none, none] (v.toList ++ []) h1 Q))) : dh_J G mX10_lost 7 [some (.ref 61), some (.int (x1)), some (.int (x2)), some (.int (x3)), none, none, none] [.int (s0)] h Q := by
  refine a_if_eq 30 dX10_lost_7 (by decide) (fun c1 => ?_) (fun c1 => ?_)
  · replace k := k.1 c1
    refine a_ldc dX10_lost_30 (v := (-1000000002 : Int32)) kK_RX10_76 ?_
    exact a_iret dX10_lost_32 rfl k
  · replace k := k.2 c1
    refine a_iload_n dX10_lost_10 rfl ?_
    refine a_iconst dX10_lost_11 (v := nI 0) (by decide) ?_
    refine a_bipush dX10_lost_12 (v := nI 100) (by decide) ?_
    exact a_callS3 dX10_lost_14 (dh_Y_up cY_RX10_69 (by decide)) (Nat.le_of_ble_eq_true rfl) k
set_option maxRecDepth 100000 in
theorem w_X10_lost_17 {G : dh_G} {x1 x2 x3 s0 : Int32} {h : dh_H} {Q : Option Value → dh_H → Prop} (k : ((s0 = 0) → Q (some (.int ((-1000000002 : Int32)))) h) ∧ ((¬ s0 = 0) → dh_C G mX10_in [.int (x3), .int (nI 0), .int (nI 60)] h (fun v h1 => dh_J G mX10_lost 27 [some (.ref 61), some (.int (x1)), some (.int (x2)), some (.int (x3)), none, none, none] (v.toList ++ []) h1 Q))) : dh_J G mX10_lost 17 [some (.ref 61), some (.int (x1)), some (.int (x2)), some (.int (x3)), none, none, none] [.int (s0)] h Q := by
  refine a_if_eq 30 dX10_lost_17 (by decide) (fun c1 => ?_) (fun c1 => ?_)
  · replace k := k.1 c1
    refine a_ldc dX10_lost_30 (v := (-1000000002 : Int32)) kK_RX10_76 ?_
    exact a_iret dX10_lost_32 rfl k
  · replace k := k.2 c1
    refine a_iload_n dX10_lost_20 rfl ?_
    refine a_iconst dX10_lost_21 (v := nI 0) (by decide) ?_
    refine a_bipush dX10_lost_22 (v := nI 60) (by decide) ?_
    exact a_callS3 dX10_lost_24 (dh_Y_up cY_RX10_69 (by decide)) (Nat.le_of_ble_eq_true rfl) k
set_option maxRecDepth 100000 in
theorem w_X10_lost_27 {G : dh_G} {x1 x2 x3 s0 : Int32} {h : dh_H} {Q : Option Value → dh_H → Prop} (k : ((¬ s0 = 0) → ((¬ (h 68 19) = 0) → dh_J G mX10_lost 49 [some (.ref 61), some (.int (x1)), some (.int (x2)), some (.int (x3)), some (.int (nI 0)), none, none] [] h Q) ∧ (((h 68 19) = 0) → Q (some (.int ((-1000000003 : Int32)))) h)) ∧ ((s0 = 0) → Q (some (.int ((-1000000002 : Int32)))) h)) : dh_J G mX10_lost 27 [some (.ref 61), some (.int (x1)), some (.int (x2)), some (.int (x3)), none, none, none] [.int (s0)] h Q := by
  refine a_if_ne 33 dX10_lost_27 (by decide) (fun c1 => ?_) (fun c1 => ?_)
  · replace k := k.1 c1
    refine a_aload_n dX10_lost_33 rfl ?_
    refine a_getR dX10_lost_34 fF_RX10_32 rfl rfl ?_
    refine a_bipush dX10_lost_37 (v := nI 19) (by decide) ?_
    refine a_ialdN dX10_lost_39 rfl (j := 19) rfl (by decide) (by decide) ?_
    refine a_if_ne 46 dX10_lost_40 (by decide) (fun c2 => ?_) (fun c2 => ?_)
    · replace k := k.1 c2
      refine a_iconst dX10_lost_46 (v := nI 0) (by decide) ?_
      refine a_istore dX10_lost_47 (by decide) rfl ?_
      exact k
    · replace k := k.2 c2
      refine a_ldc dX10_lost_43 (v := (-1000000003 : Int32)) kK_RX10_203 ?_
      exact a_iret dX10_lost_45 rfl k
  · replace k := k.2 c1
    refine a_ldc dX10_lost_30 (v := (-1000000002 : Int32)) kK_RX10_76 ?_
    exact a_iret dX10_lost_32 rfl k
set_option maxRecDepth 100000 in
theorem w_X10_lost_49 {G : dh_G} {x1 x2 x3 x4 : Int32} {h : dh_H} {Q : Option Value → dh_H → Prop} (k : ((x1 ≤ x4) → dh_J G mX10_lost 81 [some (.ref 61), some (.int (x1)), some (.int (x2)), some (.int (x3)), some (.int (nI 0)), some (.int (nI 0)), none] [] h Q) ∧ ((¬ x1 ≤ x4) → (¬ x1.toInt64 = 0) ∧ (vp_in x4 20) ∧ dh_J G mX10_lost 49 [some (.ref 61), some (.int (x1)), some (.int (x2)), some (.int (x3)), some (.int (x4 + (nI 1))), none, none] [] (dh_s h 77 x4.toNatClampNeg (((1000000000 : Int64) / x1.toInt64).toInt32)) Q)) : dh_J G mX10_lost 49 [some (.ref 61), some (.int (x1)), some (.int (x2)), some (.int (x3)), some (.int (x4)), none, none] [] h Q := by
  refine a_iload dX10_lost_49 rfl ?_
  refine a_iload_n dX10_lost_51 rfl ?_
  refine a_icmp_ge 75 dX10_lost_52 (by decide) (fun c1 => ?_) (fun c1 => ?_)
  · replace k := k.1 c1
    refine a_iconst dX10_lost_75 (v := nI 0) (by decide) ?_
    refine a_istore dX10_lost_76 (by decide) rfl ?_
    refine a_iconst dX10_lost_78 (v := nI 0) (by decide) ?_
    refine a_istore dX10_lost_79 (by decide) rfl ?_
    exact k
  · replace k := k.2 c1
    refine a_aload_n dX10_lost_55 rfl ?_
    refine a_getR dX10_lost_56 fF_RX10_60 rfl rfl ?_
    refine a_iload dX10_lost_59 rfl ?_
    refine a_ldc2 dX10_lost_61 (v := 1000000000) kKL_RX10_246 ?_
    refine a_iload_n dX10_lost_64 rfl ?_
    refine a_i2l dX10_lost_65 ?_
    obtain ⟨e2, k⟩ := k
    refine a_ldiv dX10_lost_66 e2 ?_
    refine a_l2i dX10_lost_67 ?_
    obtain ⟨e3, k⟩ := k
    refine a_iast dX10_lost_68 rfl e3 ?_
    refine a_iinc dX10_lost_69 (v := x4 + (nI 1)) rfl (by rfl) (by decide) rfl ?_
    refine a_goto 49 dX10_lost_72 (by decide) ?_
    exact k
set_option maxRecDepth 100000 in
theorem w_X10_lost_81 {G : dh_G} {x1 x2 x3 x4 x5 : Int32} {h : dh_H} {Q : Option Value → dh_H → Prop} (k : ((x3 ≤ x5) → Q (some (.int (x4))) h) ∧ ((¬ x3 ≤ x5) → (¬ x1 = 0) ∧ (vp_in (x5 - x5 / x1 * x1) 20) ∧ (¬ (100 : Int64) = 0) ∧ (¬ x1 = 0) ∧ (vp_in (x5 - x5 / x1 * x1) 20) ∧ (vp_in (x5 - x5 / x1 * x1) 20) ∧ dh_J G mX10_lost 81 [some (.ref 61), some (.int (x1)), some (.int (x2)), some (.int (x3)), some (.int (x4 + (((((h 77 (x5 - x5 / x1 * x1).toNatClampNeg).toInt64) * x2.toInt64) / (100 : Int64)).toInt32))), some (.int (x5 + (nI 1))), none] [] (dh_s h 77 (x5 - x5 / x1 * x1).toNatClampNeg ((h 77 (x5 - x5 / x1 * x1).toNatClampNeg) - (((((h 77 (x5 - x5 / x1 * x1).toNatClampNeg).toInt64) * x2.toInt64) / (100 : Int64)).toInt32))) Q)) : dh_J G mX10_lost 81 [some (.ref 61), some (.int (x1)), some (.int (x2)), some (.int (x3)), some (.int (x4)), some (.int (x5)), none] [] h Q := by
  refine a_iload dX10_lost_81 rfl ?_
  refine a_iload_n dX10_lost_83 rfl ?_
  refine a_icmp_ge 134 dX10_lost_84 (by decide) (fun c1 => ?_) (fun c1 => ?_)
  · replace k := k.1 c1
    refine a_iload dX10_lost_134 rfl ?_
    exact a_iret dX10_lost_136 rfl k
  · replace k := k.2 c1
    refine a_aload_n dX10_lost_87 rfl ?_
    refine a_getR dX10_lost_88 fF_RX10_60 rfl rfl ?_
    refine a_iload dX10_lost_91 rfl ?_
    refine a_iload_n dX10_lost_93 rfl ?_
    obtain ⟨e2, k⟩ := k
    refine a_irem dX10_lost_94 e2 ?_
    obtain ⟨e3, k⟩ := k
    refine a_iald dX10_lost_95 rfl e3 ?_
    refine a_i2l dX10_lost_96 ?_
    refine a_iload_n dX10_lost_97 rfl ?_
    refine a_i2l dX10_lost_98 ?_
    refine a_lmul dX10_lost_99 ?_
    refine a_ldc2 dX10_lost_100 (v := 100) kKL_RX10_248 ?_
    obtain ⟨e4, k⟩ := k
    refine a_ldiv dX10_lost_103 e4 ?_
    refine a_l2i dX10_lost_104 ?_
    refine a_istore dX10_lost_105 (by decide) rfl ?_
    refine a_aload_n dX10_lost_107 rfl ?_
    refine a_getR dX10_lost_108 fF_RX10_60 rfl rfl ?_
    refine a_iload dX10_lost_111 rfl ?_
    refine a_iload_n dX10_lost_113 rfl ?_
    obtain ⟨e5, k⟩ := k
    refine a_irem dX10_lost_114 e5 ?_
    refine a_dup2 dX10_lost_115 rfl rfl ?_
    obtain ⟨e6, k⟩ := k
    refine a_iald dX10_lost_116 rfl e6 ?_
    refine a_iload dX10_lost_117 rfl ?_
    refine a_isub dX10_lost_119 ?_
    obtain ⟨e7, k⟩ := k
    refine a_iast dX10_lost_120 rfl e7 ?_
    refine a_iload dX10_lost_121 rfl ?_
    refine a_iload dX10_lost_123 rfl ?_
    refine a_iadd dX10_lost_125 ?_
    refine a_istore dX10_lost_126 (by decide) rfl ?_
    refine a_iinc dX10_lost_128 (v := x5 + (nI 1)) rfl (by rfl) (by decide) rfl ?_
    refine a_goto 81 dX10_lost_131 (by decide) ?_
    refine dh_drop 6 ?_
    exact k
set_option maxRecDepth 100000 in
theorem w_X10_spares_0 {G : dh_G} {x1 : Int32} {h : dh_H} {Q : Option Value → dh_H → Prop} (k : dh_C G mX10_isDummy [.ref 61, .int (x1)] h (fun v h1 => dh_J G mX10_spares 5 [some (.ref 61), some (.int (x1))] (v.toList ++ []) h1 Q)) : dh_J G mX10_spares 0 [some (.ref 61), some (.int (x1))] [] h Q := by
  refine a_aload_n dX10_spares_0 rfl ?_
  refine a_iload_n dX10_spares_1 rfl ?_
  exact a_callV1 dX10_spares_2 (dh_Y_up cY_RX10_193 (by decide)) rfl rfl (Nat.le_of_ble_eq_true rfl) k
theorem e_X10_spares {G : dh_G} {x1 : Int32} {h : dh_H} {Q : Option Value → dh_H → Prop} (k : dh_C G mX10_isDummy [.ref 61, .int (x1)] h (fun v h1 => dh_J G mX10_spares 5 [some (.ref 61), some (.int (x1))] (v.toList ++ []) h1 Q)) : dh_C G mX10_spares [.ref 61, .int (x1)] h Q := dh_C_of [some (.ref 61), some (.int (x1))] (by decide) (Nat.le_of_ble_eq_true rfl) rfl (w_X10_spares_0 k)
set_option maxRecDepth 100000 in
theorem w_X10_spares_5 {G : dh_G} {x1 s0 : Int32} {h : dh_H} {Q : Option Value → dh_H → Prop} (k : ((s0 = 0) → Q (some (.int ((-1000000001 : Int32)))) h) ∧ ((¬ s0 = 0) → dh_C G mX10_layCalm [.ref 61, .int (nI 0), .int (nI 0)] h (fun v h1 => dh_J G mX10_spares 14 [some (.ref 61), some (.int (x1))] (v.toList ++ []) h1 Q))) : dh_J G mX10_spares 5 [some (.ref 61), some (.int (x1))] [.int (s0)] h Q := by
  refine a_if_eq 26 dX10_spares_5 (by decide) (fun c1 => ?_) (fun c1 => ?_)
  · replace k := k.1 c1
    refine a_ldc dX10_spares_26 (v := (-1000000001 : Int32)) kK_RX10_192 ?_
    exact a_iret dX10_spares_28 rfl k
  · replace k := k.2 c1
    refine a_aload_n dX10_spares_8 rfl ?_
    refine a_iconst dX10_spares_9 (v := nI 0) (by decide) ?_
    refine a_iconst dX10_spares_10 (v := nI 0) (by decide) ?_
    exact a_callV2 dX10_spares_11 (dh_Y_up cY_RX10_242 (by decide)) rfl rfl (Nat.le_of_ble_eq_true rfl) k
set_option maxRecDepth 100000 in
theorem w_X10_spares_14 {G : dh_G} {x1 s0 : Int32} {h : dh_H} {Q : Option Value → dh_H → Prop} (k : dh_C G mX10_layCalm [.ref 61, .int (nI 0), .int ((nI 1) <<< (x1 &&& 31))] h (fun v h1 => dh_J G mX10_spares 22 [none, none] (v.toList ++ [.int (s0)]) h1 Q)) : dh_J G mX10_spares 14 [some (.ref 61), some (.int (x1))] [.int (s0)] h Q := by
  refine a_aload_n dX10_spares_14 rfl ?_
  refine a_iconst dX10_spares_15 (v := nI 0) (by decide) ?_
  refine a_iconst dX10_spares_16 (v := nI 1) (by decide) ?_
  refine a_iload_n dX10_spares_17 rfl ?_
  refine a_ishl dX10_spares_18 ?_
  refine dh_drop 0 ?_
  refine dh_drop 1 ?_
  exact a_callV2 dX10_spares_19 (dh_Y_up cY_RX10_242 (by decide)) rfl rfl (Nat.le_of_ble_eq_true rfl) k
set_option maxRecDepth 100000 in
theorem w_X10_spares_22 {G : dh_G} {s0 s1 : Int32} {h : dh_H} {Q : Option Value → dh_H → Prop} (k : Q (some (.int (s0 - s1))) h) : dh_J G mX10_spares 22 [none, none] [.int (s1), .int (s0)] h Q := by
  refine a_isub dX10_spares_22 ?_
  refine a_goto 28 dX10_spares_23 (by decide) ?_
  exact a_iret dX10_spares_28 rfl k
set_option maxRecDepth 100000 in
theorem w_X10_off_0 {G : dh_G} {x1 : Int32} {h : dh_H} {Q : Option Value → dh_H → Prop} (k : dh_C G mX10_isChild [.ref 61, .int (x1)] h (fun v h1 => dh_J G mX10_off 5 [some (.ref 61), some (.int (x1))] (v.toList ++ []) h1 Q)) : dh_J G mX10_off 0 [some (.ref 61), some (.int (x1))] [] h Q := by
  refine a_aload_n dX10_off_0 rfl ?_
  refine a_iload_n dX10_off_1 rfl ?_
  exact a_callV1 dX10_off_2 (dh_Y_up cY_RX10_189 (by decide)) rfl rfl (Nat.le_of_ble_eq_true rfl) k
theorem e_X10_off {G : dh_G} {x1 : Int32} {h : dh_H} {Q : Option Value → dh_H → Prop} (k : dh_C G mX10_isChild [.ref 61, .int (x1)] h (fun v h1 => dh_J G mX10_off 5 [some (.ref 61), some (.int (x1))] (v.toList ++ []) h1 Q)) : dh_C G mX10_off [.ref 61, .int (x1)] h Q := dh_C_of [some (.ref 61), some (.int (x1))] (by decide) (Nat.le_of_ble_eq_true rfl) rfl (w_X10_off_0 k)
set_option maxRecDepth 100000 in
theorem w_X10_off_5 {G : dh_G} {x1 s0 : Int32} {h : dh_H} {Q : Option Value → dh_H → Prop} (k : ((s0 = 0) → Q (some (.int ((-1000000001 : Int32)))) h) ∧ ((¬ s0 = 0) → (vp_in (((nI 2) * x1) + (nI 1)) 12) ∧ (vp_in ((nI 2) * x1) 12) ∧ ((¬ (h 65 ((nI 2) * x1).toNatClampNeg) = (nI 3)) → Q (some (.int (((nI 100) - (h 65 (((nI 2) * x1) + (nI 1)).toNatClampNeg)) * (nI 1)))) h) ∧ (((h 65 ((nI 2) * x1).toNatClampNeg) = (nI 3)) → Q (some (.int (((nI 100) - (h 65 (((nI 2) * x1) + (nI 1)).toNatClampNeg)) * (nI 2)))) h))) : dh_J G mX10_off 5 [some (.ref 61), some (.int (x1))] [.int (s0)] h Q := by
  refine a_if_eq 42 dX10_off_5 (by decide) (fun c1 => ?_) (fun c1 => ?_)
  · replace k := k.1 c1
    refine a_ldc dX10_off_42 (v := (-1000000001 : Int32)) kK_RX10_192 ?_
    exact a_iret dX10_off_44 rfl k
  · replace k := k.2 c1
    refine a_bipush dX10_off_8 (v := nI 100) (by decide) ?_
    refine a_aload_n dX10_off_10 rfl ?_
    refine a_getR dX10_off_11 fF_RX10_23 rfl rfl ?_
    refine a_iconst dX10_off_14 (v := nI 2) (by decide) ?_
    refine a_iload_n dX10_off_15 rfl ?_
    refine a_imul dX10_off_16 ?_
    refine a_iconst dX10_off_17 (v := nI 1) (by decide) ?_
    refine a_iadd dX10_off_18 ?_
    obtain ⟨e2, k⟩ := k
    refine a_iald dX10_off_19 rfl e2 ?_
    refine a_isub dX10_off_20 ?_
    refine a_aload_n dX10_off_21 rfl ?_
    refine a_getR dX10_off_22 fF_RX10_23 rfl rfl ?_
    refine a_iconst dX10_off_25 (v := nI 2) (by decide) ?_
    refine a_iload_n dX10_off_26 rfl ?_
    refine a_imul dX10_off_27 ?_
    obtain ⟨e3, k⟩ := k
    refine a_iald dX10_off_28 rfl e3 ?_
    refine a_iconst dX10_off_29 (v := nI 3) (by decide) ?_
    refine a_icmp_ne 37 dX10_off_30 (by decide) (fun c4 => ?_) (fun c4 => ?_)
    · replace k := k.1 c4
      refine a_iconst dX10_off_37 (v := nI 1) (by decide) ?_
      refine a_imul dX10_off_38 ?_
      refine a_goto 44 dX10_off_39 (by decide) ?_
      exact a_iret dX10_off_44 rfl k
    · replace k := k.2 c4
      refine a_iconst dX10_off_33 (v := nI 2) (by decide) ?_
      refine a_goto 38 dX10_off_34 (by decide) ?_
      refine a_imul dX10_off_38 ?_
      refine a_goto 44 dX10_off_39 (by decide) ?_
      exact a_iret dX10_off_44 rfl k
set_option maxRecDepth 100000 in
theorem w_X10_quiet_0 {G : dh_G} {x1 : Int32} {h : dh_H} {Q : Option Value → dh_H → Prop} (k : dh_C G mX10_in [.int (x1), .int (nI 0), .int (nI 60)] h (fun v h1 => dh_J G mX10_quiet 7 [some (.ref 61), some (.int (x1)), none, none, none] (v.toList ++ []) h1 Q)) : dh_J G mX10_quiet 0 [some (.ref 61), some (.int (x1)), none, none, none] [] h Q := by
  refine a_iload_n dX10_quiet_0 rfl ?_
  refine a_iconst dX10_quiet_1 (v := nI 0) (by decide) ?_
  refine a_bipush dX10_quiet_2 (v := nI 60) (by decide) ?_
  exact a_callS3 dX10_quiet_4 (dh_Y_up cY_RX10_69 (by decide)) (Nat.le_of_ble_eq_true rfl) k
theorem e_X10_quiet {G : dh_G} {x1 : Int32} {h : dh_H} {Q : Option Value → dh_H → Prop} (k : dh_C G mX10_in [.int (x1), .int (nI 0), .int (nI 60)] h (fun v h1 => dh_J G mX10_quiet 7 [some (.ref 61), some (.int (x1)), none, none, none] (v.toList ++ []) h1 Q)) : dh_C G mX10_quiet [.ref 61, .int (x1)] h Q := dh_C_of [some (.ref 61), some (.int (x1)), none, none, none] (by decide) (Nat.le_of_ble_eq_true rfl) rfl (w_X10_quiet_0 k)
set_option maxRecDepth 100000 in
theorem w_X10_quiet_7 {G : dh_G} {x1 s0 : Int32} {h : dh_H} {Q : Option Value → dh_H → Prop} (k : ((¬ s0 = 0) → dh_J G mX10_quiet 20 [some (.ref 61), some (.int (x1)), some (.long ((1000000000 : Int64))), none, some (.int (nI 0))] [] h Q) ∧ ((s0 = 0) → Q (some (.int ((-1000000002 : Int32)))) h)) : dh_J G mX10_quiet 7 [some (.ref 61), some (.int (x1)), none, none, none] [.int (s0)] h Q := by
  refine a_if_ne 13 dX10_quiet_7 (by decide) (fun c1 => ?_) (fun c1 => ?_)
  · replace k := k.1 c1
    refine a_ldc2 dX10_quiet_13 (v := 1000000000) kKL_RX10_246 ?_
    refine a_lstore_n dX10_quiet_16 (by decide) rfl ?_
    refine a_iconst dX10_quiet_17 (v := nI 0) (by decide) ?_
    refine a_istore dX10_quiet_18 (by decide) rfl ?_
    exact k
  · replace k := k.2 c1
    refine a_ldc dX10_quiet_10 (v := (-1000000002 : Int32)) kK_RX10_76 ?_
    exact a_iret dX10_quiet_12 rfl k
set_option maxRecDepth 100000 in
theorem w_X10_quiet_20 {G : dh_G} {x1 x4 : Int32} {l2 : Int64} {h : dh_H} {Q : Option Value → dh_H → Prop} (k : ((x1 ≤ x4) → Q (some (.int (l2.toInt32))) h) ∧ ((¬ x1 ≤ x4) → (¬ (100 : Int64) = 0) ∧ dh_J G mX10_quiet 20 [some (.ref 61), some (.int (x1)), some (.long ((l2 * (((nI 100) - (h 61 18)).toInt64)) / (100 : Int64))), none, some (.int (x4 + (nI 1)))] [] h Q)) : dh_J G mX10_quiet 20 [some (.ref 61), some (.int (x1)), some (.long (l2)), none, some (.int (x4))] [] h Q := by
  refine a_iload dX10_quiet_20 rfl ?_
  refine a_iload_n dX10_quiet_22 rfl ?_
  refine a_icmp_ge 47 dX10_quiet_23 (by decide) (fun c1 => ?_) (fun c1 => ?_)
  · replace k := k.1 c1
    refine a_lload_n dX10_quiet_47 rfl ?_
    refine a_l2i dX10_quiet_48 ?_
    exact a_iret dX10_quiet_49 rfl k
  · replace k := k.2 c1
    refine a_lload_n dX10_quiet_26 rfl ?_
    refine a_bipush dX10_quiet_27 (v := nI 100) (by decide) ?_
    refine a_aload_n dX10_quiet_29 rfl ?_
    refine a_getI dX10_quiet_30 fF_RX10_154 rfl rfl ?_
    refine a_isub dX10_quiet_33 ?_
    refine a_i2l dX10_quiet_34 ?_
    refine a_lmul dX10_quiet_35 ?_
    refine a_ldc2 dX10_quiet_36 (v := 100) kKL_RX10_248 ?_
    obtain ⟨e2, k⟩ := k
    refine a_ldiv dX10_quiet_39 e2 ?_
    refine a_lstore_n dX10_quiet_40 (by decide) rfl ?_
    refine a_iinc dX10_quiet_41 (v := x4 + (nI 1)) rfl (by rfl) (by decide) rfl ?_
    refine a_goto 20 dX10_quiet_44 (by decide) ?_
    exact k
