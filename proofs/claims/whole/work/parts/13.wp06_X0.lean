set_option maxRecDepth 100000 in
theorem w_X0_append_0 {G : dh_G} {x1 x2 : Int32} {h : dh_H} {Q : Option Value → dh_H → Prop} (k : (((h 51 0) < (nI 15)) → (vp_in (h 51 0) 15) ∧ (vp_in (h 51 0) 15) ∧ Q (some (.int (nI 1))) (dh_s (dh_s (dh_s h 52 (h 51 0).toNatClampNeg x1) 53 (h 51 0).toNatClampNeg x2) 51 0 ((h 51 0) + (nI 1)))) ∧ ((¬ (h 51 0) < (nI 15)) → Q (some (.int (nI 0))) h)) : dh_J G mX0_append 0 [some (.ref 51), some (.int (x1)), some (.int (x2))] [] h Q := by
  refine a_aload_n dX0_append_0 rfl ?_
  refine a_getI dX0_append_1 fF_RX0_18 rfl rfl ?_
  refine a_bipush dX0_append_4 (v := nI 15) (by decide) ?_
  refine a_icmp_lt 11 dX0_append_6 (by decide) (fun c1 => ?_) (fun c1 => ?_)
  · replace k := k.1 c1
    refine a_aload_n dX0_append_11 rfl ?_
    refine a_getR dX0_append_12 fF_RX0_9 rfl rfl ?_
    refine a_aload_n dX0_append_15 rfl ?_
    refine a_getI dX0_append_16 fF_RX0_18 rfl rfl ?_
    refine a_iload_n dX0_append_19 rfl ?_
    obtain ⟨e2, k⟩ := k
    refine a_iast dX0_append_20 rfl e2 ?_
    refine a_aload_n dX0_append_21 rfl ?_
    refine a_getR dX0_append_22 fF_RX0_15 rfl rfl ?_
    refine a_aload_n dX0_append_25 rfl ?_
    refine a_getI dX0_append_26 fF_RX0_18 rfl rfl ?_
    refine a_iload_n dX0_append_29 rfl ?_
    obtain ⟨e3, k⟩ := k
    refine a_iast dX0_append_30 rfl e3 ?_
    refine a_aload_n dX0_append_31 rfl ?_
    refine a_dup dX0_append_32 rfl ?_
    refine a_getI dX0_append_33 fF_RX0_18 rfl rfl ?_
    refine a_iconst dX0_append_36 (v := nI 1) (by decide) ?_
    refine a_iadd dX0_append_37 ?_
    refine a_put dX0_append_38 fF_RX0_18 rfl rfl rfl rfl ?_
    refine a_iconst dX0_append_41 (v := nI 1) (by decide) ?_
    exact a_zret dX0_append_42 rfl (by decide) k
  · replace k := k.2 c1
    refine a_iconst dX0_append_9 (v := nI 0) (by decide) ?_
    exact a_zret dX0_append_10 rfl (by decide) k
theorem e_X0_append {G : dh_G} {x1 x2 : Int32} {h : dh_H} {Q : Option Value → dh_H → Prop} (k : (((h 51 0) < (nI 15)) → (vp_in (h 51 0) 15) ∧ (vp_in (h 51 0) 15) ∧ Q (some (.int (nI 1))) (dh_s (dh_s (dh_s h 52 (h 51 0).toNatClampNeg x1) 53 (h 51 0).toNatClampNeg x2) 51 0 ((h 51 0) + (nI 1)))) ∧ ((¬ (h 51 0) < (nI 15)) → Q (some (.int (nI 0))) h)) : dh_C G mX0_append [.ref 51, .int (x1), .int (x2)] h Q := dh_C_of [some (.ref 51), some (.int (x1)), some (.int (x2))] (by decide) (Nat.le_of_ble_eq_true rfl) rfl (w_X0_append_0 k)
set_option maxRecDepth 100000 in
theorem w_X0_firstWrong_0 {G : dh_G} {h : dh_H} {Q : Option Value → dh_H → Prop} (k : dh_J G mX0_firstWrong 2 [some (.ref 51), some (.ref 19), some (.int (nI 0))] [] h Q) : dh_J G mX0_firstWrong 0 [some (.ref 51), some (.ref 19), none] [] h Q := by
  refine a_iconst dX0_firstWrong_0 (v := nI 0) (by decide) ?_
  refine a_istore_n dX0_firstWrong_1 (by decide) rfl ?_
  exact k
theorem e_X0_firstWrong {G : dh_G} {h : dh_H} {Q : Option Value → dh_H → Prop} (k : dh_J G mX0_firstWrong 2 [some (.ref 51), some (.ref 19), some (.int (nI 0))] [] h Q) : dh_C G mX0_firstWrong [.ref 51, .ref 19] h Q := dh_C_of [some (.ref 51), some (.ref 19), none] (by decide) (Nat.le_of_ble_eq_true rfl) rfl (w_X0_firstWrong_0 k)
set_option maxRecDepth 100000 in
theorem w_X0_firstWrong_2 {G : dh_G} {x2 : Int32} {h : dh_H} {Q : Option Value → dh_H → Prop} (k : (((h 51 0) ≤ x2) → Q (some (.int ((-1 : Int32)))) h) ∧ ((¬ (h 51 0) ≤ x2) → (vp_in x2 15) ∧ dh_C G mX8_holderOf [.ref 19, .int (h 52 x2.toNatClampNeg)] h (fun v h1 => dh_J G mX0_firstWrong 20 [some (.ref 51), some (.ref 19), some (.int (x2))] (v.toList ++ []) h1 Q))) : dh_J G mX0_firstWrong 2 [some (.ref 51), some (.ref 19), some (.int (x2))] [] h Q := by
  refine a_iload_n dX0_firstWrong_2 rfl ?_
  refine a_aload_n dX0_firstWrong_3 rfl ?_
  refine a_getI dX0_firstWrong_4 fF_RX0_18 rfl rfl ?_
  refine a_icmp_ge 37 dX0_firstWrong_7 (by decide) (fun c1 => ?_) (fun c1 => ?_)
  · replace k := k.1 c1
    refine a_iconst dX0_firstWrong_37 (v := (-1 : Int32)) (by decide) ?_
    exact a_iret dX0_firstWrong_38 rfl k
  · replace k := k.2 c1
    refine a_aload_n dX0_firstWrong_10 rfl ?_
    refine a_aload_n dX0_firstWrong_11 rfl ?_
    refine a_getR dX0_firstWrong_12 fF_RX0_9 rfl rfl ?_
    refine a_iload_n dX0_firstWrong_15 rfl ?_
    obtain ⟨e2, k⟩ := k
    refine a_iald dX0_firstWrong_16 rfl e2 ?_
    exact a_callV1 dX0_firstWrong_17 (dh_Y_up cY_RX0_22 (by decide)) rfl rfl (Nat.le_of_ble_eq_true rfl) k
set_option maxRecDepth 100000 in
theorem w_X0_firstWrong_20 {G : dh_G} {x2 s0 : Int32} {h : dh_H} {Q : Option Value → dh_H → Prop} (k : (vp_in x2 15) ∧ ((s0 = (h 53 x2.toNatClampNeg)) → dh_J G mX0_firstWrong 2 [some (.ref 51), some (.ref 19), some (.int (x2 + (nI 1)))] [] h Q) ∧ ((¬ s0 = (h 53 x2.toNatClampNeg)) → Q (some (.int (x2))) h)) : dh_J G mX0_firstWrong 20 [some (.ref 51), some (.ref 19), some (.int (x2))] [.int (s0)] h Q := by
  refine a_aload_n dX0_firstWrong_20 rfl ?_
  refine a_getR dX0_firstWrong_21 fF_RX0_15 rfl rfl ?_
  refine a_iload_n dX0_firstWrong_24 rfl ?_
  obtain ⟨e1, k⟩ := k
  refine a_iald dX0_firstWrong_25 rfl e1 ?_
  refine a_icmp_eq 31 dX0_firstWrong_26 (by decide) (fun c2 => ?_) (fun c2 => ?_)
  · replace k := k.1 c2
    refine a_iinc dX0_firstWrong_31 (v := x2 + (nI 1)) rfl (by rfl) (by decide) rfl ?_
    refine a_goto 2 dX0_firstWrong_34 (by decide) ?_
    exact k
  · replace k := k.2 c2
    refine a_iload_n dX0_firstWrong_29 rfl ?_
    exact a_iret dX0_firstWrong_30 rfl k
