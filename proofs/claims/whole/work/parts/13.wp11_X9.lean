set_option maxRecDepth 100000 in
theorem w_X9_isIn_0 {G : dh_G} {x0 x1 : Int32} {h : dh_H} {Q : Option Value → dh_H → Prop} (k : ((((x0 >>> (x1 &&& 31)) &&& (nI 1)) = 0) → Q (some (.int (nI 0))) h) ∧ ((¬ ((x0 >>> (x1 &&& 31)) &&& (nI 1)) = 0) → Q (some (.int (nI 1))) h)) : dh_J G mX9_isIn 0 [some (.int (x0)), some (.int (x1))] [] h Q := by
  refine a_iload_n dX9_isIn_0 rfl ?_
  refine a_iload_n dX9_isIn_1 rfl ?_
  refine a_ishr dX9_isIn_2 ?_
  refine a_iconst dX9_isIn_3 (v := nI 1) (by decide) ?_
  refine a_iand dX9_isIn_4 ?_
  refine a_if_eq 12 dX9_isIn_5 (by decide) (fun c1 => ?_) (fun c1 => ?_)
  · replace k := k.1 c1
    refine a_iconst dX9_isIn_12 (v := nI 0) (by decide) ?_
    exact a_zret dX9_isIn_13 rfl (by decide) k
  · replace k := k.2 c1
    refine a_iconst dX9_isIn_8 (v := nI 1) (by decide) ?_
    refine a_goto 13 dX9_isIn_9 (by decide) ?_
    exact a_zret dX9_isIn_13 rfl (by decide) k
theorem e_X9_isIn {G : dh_G} {x0 x1 : Int32} {h : dh_H} {Q : Option Value → dh_H → Prop} (k : ((((x0 >>> (x1 &&& 31)) &&& (nI 1)) = 0) → Q (some (.int (nI 0))) h) ∧ ((¬ ((x0 >>> (x1 &&& 31)) &&& (nI 1)) = 0) → Q (some (.int (nI 1))) h)) : dh_C G mX9_isIn [.int (x0), .int (x1)] h Q := dh_C_of [some (.int (x0)), some (.int (x1))] (by decide) (Nat.le_of_ble_eq_true rfl) rfl (w_X9_isIn_0 k)
