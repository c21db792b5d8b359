/-! the constructors (by program) -/
theorem kw_aI : Cond.arrayClass .int ∈ dh_cw := (dh_in 51 (by decide +kernel) rfl)
theorem kw_aB : Cond.arrayClass .boolean ∈ dh_cw := (dh_in 233 (by decide +kernel) rfl)
theorem kw_o1 : Cond.instanceMethod Lib.objectInit ∈ dh_cw := (dh_in 21 (by decide +kernel) rfl)
theorem kw_o2 : Cond.code Lib.objectInit ⟨#[0xb1]⟩ 1 none ∈ dh_cw := (dh_in 22 (by decide +kernel) rfl)
theorem kdf_0 : ∀ j, j < 3 → defaultValue (tyX0 j) = vp_V [.int 0, .null, .null] j := by
  intro j hj
  exact match j, hj with
  | 0, _ => rfl
  | 1, _ => rfl
  | 2, _ => rfl
  | j + 3, hj => absurd hj (by omega)
theorem kdf_1 : ∀ j, j < 1 → defaultValue (tyX1 j) = vp_V [.int 0] j := by
  intro j hj
  exact match j, hj with
  | 0, _ => rfl
  | j + 1, hj => absurd hj (by omega)
theorem kdf_2 : ∀ j, j < 3 → defaultValue (tyX2 j) = vp_V [.int 0, .int 0, .null] j := by
  intro j hj
  exact match j, hj with
  | 0, _ => rfl
  | 1, _ => rfl
  | 2, _ => rfl
  | j + 3, hj => absurd hj (by omega)
theorem kdf_3 : ∀ j, j < 4 → defaultValue (tyX3 j) = vp_V [.int 0, .int 0, .null, .null] j := by
  intro j hj
  exact match j, hj with
  | 0, _ => rfl
  | 1, _ => rfl
  | 2, _ => rfl
  | 3, _ => rfl
  | j + 4, hj => absurd hj (by omega)
theorem kdf_4 : ∀ j, j < 3 → defaultValue (tyX4 j) = vp_V [.null, .int 0, .int 0] j := by
  intro j hj
  exact match j, hj with
  | 0, _ => rfl
  | 1, _ => rfl
  | 2, _ => rfl
  | j + 3, hj => absurd hj (by omega)
theorem kdf_5 : ∀ j, j < 12 → defaultValue (tyX5 j) = vp_V [.int 0, .int 0, .int 0, .int 0, .int 0, .null, .null, .null, .null, .null, .null, .null] j := by
  intro j hj
  exact match j, hj with
  | 0, _ => rfl
  | 1, _ => rfl
  | 2, _ => rfl
  | 3, _ => rfl
  | 4, _ => rfl
  | 5, _ => rfl
  | 6, _ => rfl
  | 7, _ => rfl
  | 8, _ => rfl
  | 9, _ => rfl
  | 10, _ => rfl
  | 11, _ => rfl
  | j + 12, hj => absurd hj (by omega)
theorem kdf_6 : ∀ j, j < 6 → defaultValue (tyX6 j) = vp_V [.null, .int 0, .int 0, .int 0, .int 0, .int 0] j := by
  intro j hj
  exact match j, hj with
  | 0, _ => rfl
  | 1, _ => rfl
  | 2, _ => rfl
  | 3, _ => rfl
  | 4, _ => rfl
  | 5, _ => rfl
  | j + 6, hj => absurd hj (by omega)
theorem kdf_7 : ∀ j, j < 10 → defaultValue (tyX7 j) = vp_V [.null, .int 0, .null, .null, .null, .null, .int 0, .null, .null, .null] j := by
  intro j hj
  exact match j, hj with
  | 0, _ => rfl
  | 1, _ => rfl
  | 2, _ => rfl
  | 3, _ => rfl
  | 4, _ => rfl
  | 5, _ => rfl
  | 6, _ => rfl
  | 7, _ => rfl
  | 8, _ => rfl
  | 9, _ => rfl
  | j + 10, hj => absurd hj (by omega)
theorem kdf_8 : ∀ j, j < 7 → defaultValue (tyX8 j) = vp_V [.null, .int 0, .null, .null, .null, .null, .null] j := by
  intro j hj
  exact match j, hj with
  | 0, _ => rfl
  | 1, _ => rfl
  | 2, _ => rfl
  | 3, _ => rfl
  | 4, _ => rfl
  | 5, _ => rfl
  | 6, _ => rfl
  | j + 7, hj => absurd hj (by omega)
theorem kdf_9 : ∀ j, j < 11 → defaultValue (tyX9 j) = vp_V [.null, .null, .null, .null, .null, .null, .null, .null, .null, .null, .null] j := by
  intro j hj
  exact match j, hj with
  | 0, _ => rfl
  | 1, _ => rfl
  | 2, _ => rfl
  | 3, _ => rfl
  | 4, _ => rfl
  | 5, _ => rfl
  | 6, _ => rfl
  | 7, _ => rfl
  | 8, _ => rfl
  | 9, _ => rfl
  | 10, _ => rfl
  | j + 11, hj => absurd hj (by omega)
theorem kdf_10 : ∀ j, j < 39 → defaultValue (tyX10 j) = vp_V [.int 0, .null, .int 0, .int 0, .int 0, .int 0, .int 0, .int 0, .int 0, .int 0, .int 0, .int 0, .int 0, .int 0, .null, .null, .int 0, .int 0, .int 0, .int 0, .int 0, .null, .null, .null, .null, .null, .int 0, .null, .null, .null, .int 0, .int 0, .null, .int 0, .null, .null, .null, .null, .null] j := by
  intro j hj
  exact match j, hj with
  | 0, _ => rfl
  | 1, _ => rfl
  | 2, _ => rfl
  | 3, _ => rfl
  | 4, _ => rfl
  | 5, _ => rfl
  | 6, _ => rfl
  | 7, _ => rfl
  | 8, _ => rfl
  | 9, _ => rfl
  | 10, _ => rfl
  | 11, _ => rfl
  | 12, _ => rfl
  | 13, _ => rfl
  | 14, _ => rfl
  | 15, _ => rfl
  | 16, _ => rfl
  | 17, _ => rfl
  | 18, _ => rfl
  | 19, _ => rfl
  | 20, _ => rfl
  | 21, _ => rfl
  | 22, _ => rfl
  | 23, _ => rfl
  | 24, _ => rfl
  | 25, _ => rfl
  | 26, _ => rfl
  | 27, _ => rfl
  | 28, _ => rfl
  | 29, _ => rfl
  | 30, _ => rfl
  | 31, _ => rfl
  | 32, _ => rfl
  | 33, _ => rfl
  | 34, _ => rfl
  | 35, _ => rfl
  | 36, _ => rfl
  | 37, _ => rfl
  | 38, _ => rfl
  | j + 39, hj => absurd hj (by omega)
theorem k_len6 {rs : List Nat} (h : rs.length = 6) : ∃ r0 r1 r2 r3 r4 r5, rs = [r0, r1, r2, r3, r4, r5] := by
  match rs, h with
  | [r0, r1, r2, r3, r4, r5], _ => exact ⟨r0, r1, r2, r3, r4, r5, rfl⟩
theorem k_len7 {rs : List Nat} (h : rs.length = 7) : ∃ r0 r1 r2 r3 r4 r5 r6, rs = [r0, r1, r2, r3, r4, r5, r6] := by
  match rs, h with
  | [r0, r1, r2, r3, r4, r5, r6], _ => exact ⟨r0, r1, r2, r3, r4, r5, r6, rfl⟩
theorem k_len2 (a b : Nat) : va_up (va_up (fun _ => none) (nI 0).toNatClampNeg (some a)) (nI 1).toNatClampNeg (some b) = fun j => ([a, b] : List Nat)[j]? := by
  funext j
  rw [nI_clamp (by decide), nI_clamp (by decide)]
  match j with
  | 0 => rfl
  | 1 => rfl
  | j + 2 => simp [va_up]
theorem kF_RX0_9 : kF RX0 9 0 1 true (tyX0 1) := ⟨TX0, 3, tyX0, rfl, by decide, inC0, tyX0_ok, nmX0, (dh_in 242 (by decide +kernel) rfl), rfl, rfl, rfl⟩
theorem kF_RX0_15 : kF RX0 15 0 2 true (tyX0 2) := ⟨TX0, 3, tyX0, rfl, by decide, inC0, tyX0_ok, nmX0, (dh_in 243 (by decide +kernel) rfl), rfl, rfl, rfl⟩
abbrev mX0_init : dh_M := (yX0_init, cX0_init, 1, none, 1)
set_option maxRecDepth 20000 in
theorem k_X0_init (G : dh_G) (o : Nat) : kC G mX0_init 2 30 [.ref o] [(o, .inr (0, [.int 0, .null, .null]))] (fun w => ∃ q1 q2 : Nat, w = [(o, .inr (0, [.int 0, .ref q1, .ref q2])), (q1, .inl (G.2.2.2 0, 15, .inl (fun _ => 0))), (q2, .inl (G.2.2.2 0, 15, .inl (fun _ => 0)))]) := by
  refine kC_of (by decide +kernel) rfl (Nat.le_of_ble_eq_true rfl) (fun A => ?_)
  show kJ G mX0_init 2 30 A 0 [(0, .ref o)] [] [(o, .inr (0, [.int 0, .null, .null]))] 0 0 _
  refine k_aload dX0_init_0 (List.Mem.head _) ?_
  refine k_obj dX0_init_1 (dh_in 239 (by decide +kernel) rfl) kw_o1 kw_o2 (by decide) ?_
  refine k_aload dX0_init_4 (List.Mem.head _) ?_
  refine k_bipush (nI 15) dX0_init_5 (by decide) ?_
  refine k_newI (N := 15) (fun q1 => [(o, .inr (0, [.int 0, .null, .null])), (q1, .inl (G.2.2.2 0, 15, .inl (fun _ => 0)))]) dX0_init_7 kw_aI (by decide) (Nat.le_of_ble_eq_true rfl) (Nat.le_of_ble_eq_true rfl) (fun _ => rfl) (fun q1 => ?_)
  refine k_put (q0 := 0) (fs := [.int 0, .null, .null]) [(o, .inr (0, [.int 0, .ref q1, .null])), (q1, .inl (G.2.2.2 0, 15, .inl (fun _ => 0)))] dX0_init_9 kF_RX0_9 rfl rfl rfl (Nat.le_of_ble_eq_true rfl) rfl ?_
  refine k_aload dX0_init_12 (List.Mem.head _) ?_
  refine k_bipush (nI 15) dX0_init_13 (by decide) ?_
  refine k_newI (N := 15) (fun q2 => [(o, .inr (0, [.int 0, .ref q1, .null])), (q1, .inl (G.2.2.2 0, 15, .inl (fun _ => 0))), (q2, .inl (G.2.2.2 0, 15, .inl (fun _ => 0)))]) dX0_init_15 kw_aI (by decide) (Nat.le_of_ble_eq_true rfl) (Nat.le_of_ble_eq_true rfl) (fun _ => rfl) (fun q2 => ?_)
  refine k_put (q0 := 0) (fs := [.int 0, .ref q1, .null]) [(o, .inr (0, [.int 0, .ref q1, .ref q2])), (q1, .inl (G.2.2.2 0, 15, .inl (fun _ => 0))), (q2, .inl (G.2.2.2 0, 15, .inl (fun _ => 0)))] dX0_init_17 kF_RX0_15 rfl rfl rfl (Nat.le_of_ble_eq_true rfl) rfl ?_
  exact k_ret dX0_init_20 rfl (Nat.le_of_ble_eq_true rfl) (Nat.le_of_ble_eq_true rfl) ⟨q1, q2, rfl⟩
abbrev mX1_init : dh_M := (yX1_init, cX1_init, 1, none, 1)
set_option maxRecDepth 20000 in
theorem k_X1_init (G : dh_G) (o : Nat) : kC G mX1_init 0 0 [.ref o] [(o, .inr (1, [.int 0]))] (fun w => w = [(o, .inr (1, [.int 0]))]) := by
  refine kC_of (by decide +kernel) rfl (Nat.le_of_ble_eq_true rfl) (fun A => ?_)
  show kJ G mX1_init 0 0 A 0 [(0, .ref o)] [] [(o, .inr (1, [.int 0]))] 0 0 _
  refine k_aload dX1_init_0 (List.Mem.head _) ?_
  refine k_obj dX1_init_1 (dh_in 256 (by decide +kernel) rfl) kw_o1 kw_o2 (by decide) ?_
  exact k_ret dX1_init_4 rfl (Nat.le_of_ble_eq_true rfl) (Nat.le_of_ble_eq_true rfl) rfl
theorem kF_RX2_9 : kF RX2 9 2 2 true (tyX2 2) := ⟨TX2, 3, tyX2, rfl, by decide, inC2, tyX2_ok, nmX2, (dh_in 273 (by decide +kernel) rfl), rfl, rfl, rfl⟩
abbrev mX2_init : dh_M := (yX2_init, cX2_init, 1, none, 1)
set_option maxRecDepth 20000 in
theorem k_X2_init (G : dh_G) (o : Nat) : kC G mX2_init 1 31 [.ref o] [(o, .inr (2, [.int 0, .int 0, .null]))] (fun w => ∃ q1 : Nat, w = [(o, .inr (2, [.int 0, .int 0, .ref q1])), (q1, .inl (G.2.2.2 0, 31, .inl (fun _ => 0)))]) := by
  refine kC_of (by decide +kernel) rfl (Nat.le_of_ble_eq_true rfl) (fun A => ?_)
  show kJ G mX2_init 1 31 A 0 [(0, .ref o)] [] [(o, .inr (2, [.int 0, .int 0, .null]))] 0 0 _
  refine k_aload dX2_init_0 (List.Mem.head _) ?_
  refine k_obj dX2_init_1 (dh_in 269 (by decide +kernel) rfl) kw_o1 kw_o2 (by decide) ?_
  refine k_aload dX2_init_4 (List.Mem.head _) ?_
  refine k_bipush (nI 31) dX2_init_5 (by decide) ?_
  refine k_newI (N := 31) (fun q1 => [(o, .inr (2, [.int 0, .int 0, .null])), (q1, .inl (G.2.2.2 0, 31, .inl (fun _ => 0)))]) dX2_init_7 kw_aI (by decide) (Nat.le_of_ble_eq_true rfl) (Nat.le_of_ble_eq_true rfl) (fun _ => rfl) (fun q1 => ?_)
  refine k_put (q0 := 0) (fs := [.int 0, .int 0, .null]) [(o, .inr (2, [.int 0, .int 0, .ref q1])), (q1, .inl (G.2.2.2 0, 31, .inl (fun _ => 0)))] dX2_init_9 kF_RX2_9 rfl rfl rfl (Nat.le_of_ble_eq_true rfl) rfl ?_
  exact k_ret dX2_init_12 rfl (Nat.le_of_ble_eq_true rfl) (Nat.le_of_ble_eq_true rfl) ⟨q1, rfl⟩
theorem kF_RX3_9 : kF RX3 9 3 2 true (tyX3 2) := ⟨TX3, 4, tyX3, rfl, by decide, inC3, tyX3_ok, nmX3, (dh_in 182 (by decide +kernel) rfl), rfl, rfl, rfl⟩
theorem kF_RX3_17 : kF RX3 17 3 3 true (tyX3 3) := ⟨TX3, 4, tyX3, rfl, by decide, inC3, tyX3_ok, nmX3, (dh_in 183 (by decide +kernel) rfl), rfl, rfl, rfl⟩
abbrev mX3_init : dh_M := (yX3_init, cX3_init, 1, none, 1)
set_option maxRecDepth 20000 in
theorem k_X3_init (G : dh_G) (o : Nat) : kC G mX3_init 9 461 [.ref o] [(o, .inr (3, [.int 0, .int 0, .null, .null]))] (fun w => ∃ q1 q2 q3 q4 q5 q6 q7 q8 q9 : Nat, w = [(o, .inr (3, [.int 0, .int 0, .ref q1, .ref q2])), (q1, .inl (G.2.2.2 0, 6, .inl (fun _ => 0))), (q2, .inl (G.2.2.2 3, 7, .inr (.inr (.inr (.inr (fun j => ([q3, q4, q5, q6, q7, q8, q9] : List Nat)[j]?)))))), (q3, .inl (G.2.2.2 0, 64, .inl (fun _ => 0))), (q4, .inl (G.2.2.2 0, 64, .inl (fun _ => 0))), (q5, .inl (G.2.2.2 0, 64, .inl (fun _ => 0))), (q6, .inl (G.2.2.2 0, 64, .inl (fun _ => 0))), (q7, .inl (G.2.2.2 0, 64, .inl (fun _ => 0))), (q8, .inl (G.2.2.2 0, 64, .inl (fun _ => 0))), (q9, .inl (G.2.2.2 0, 64, .inl (fun _ => 0)))]) := by
  refine kC_of (by decide +kernel) rfl (Nat.le_of_ble_eq_true rfl) (fun A => ?_)
  show kJ G mX3_init 9 461 A 0 [(0, .ref o)] [] [(o, .inr (3, [.int 0, .int 0, .null, .null]))] 0 0 _
  refine k_aload dX3_init_0 (List.Mem.head _) ?_
  refine k_obj dX3_init_1 (dh_in 177 (by decide +kernel) rfl) kw_o1 kw_o2 (by decide) ?_
  refine k_aload dX3_init_4 (List.Mem.head _) ?_
  refine k_bipush (nI 6) dX3_init_5 (by decide) ?_
  refine k_newI (N := 6) (fun q1 => [(o, .inr (3, [.int 0, .int 0, .null, .null])), (q1, .inl (G.2.2.2 0, 6, .inl (fun _ => 0)))]) dX3_init_7 kw_aI (by decide) (Nat.le_of_ble_eq_true rfl) (Nat.le_of_ble_eq_true rfl) (fun _ => rfl) (fun q1 => ?_)
  refine k_put (q0 := 0) (fs := [.int 0, .int 0, .null, .null]) [(o, .inr (3, [.int 0, .int 0, .ref q1, .null])), (q1, .inl (G.2.2.2 0, 6, .inl (fun _ => 0)))] dX3_init_9 kF_RX3_9 rfl rfl rfl (Nat.le_of_ble_eq_true rfl) rfl ?_
  refine k_aload dX3_init_12 (List.Mem.head _) ?_
  refine k_bipush (nI 7) dX3_init_13 (by decide) ?_
  refine k_bipush (nI 64) dX3_init_15 (by decide) ?_
  refine k_multi (N := 7) (N2 := 64) dX3_init_17 (dh_in 178 (by decide +kernel) rfl) (by decide) (by decide) (Nat.le_of_ble_eq_true rfl) (Nat.le_of_ble_eq_true rfl) (fun q2 rs hrs => ?_)
  obtain ⟨q3, q4, q5, q6, q7, q8, q9, rfl⟩ := k_len7 hrs
  show kJ G mX3_init 9 461 A 21 [(0, .ref o)] [.ref q2, .ref o] [(o, .inr (3, [.int 0, .int 0, .ref q1, .null])), (q1, .inl (G.2.2.2 0, 6, .inl (fun _ => 0))), (q2, .inl (G.2.2.2 3, 7, .inr (.inr (.inr (.inr (fun j => ([q3, q4, q5, q6, q7, q8, q9] : List Nat)[j]?)))))), (q3, .inl (G.2.2.2 0, 64, .inl (fun _ => 0))), (q4, .inl (G.2.2.2 0, 64, .inl (fun _ => 0))), (q5, .inl (G.2.2.2 0, 64, .inl (fun _ => 0))), (q6, .inl (G.2.2.2 0, 64, .inl (fun _ => 0))), (q7, .inl (G.2.2.2 0, 64, .inl (fun _ => 0))), (q8, .inl (G.2.2.2 0, 64, .inl (fun _ => 0))), (q9, .inl (G.2.2.2 0, 64, .inl (fun _ => 0)))] _ _ _
  refine k_put (q0 := 0) (fs := [.int 0, .int 0, .ref q1, .null]) [(o, .inr (3, [.int 0, .int 0, .ref q1, .ref q2])), (q1, .inl (G.2.2.2 0, 6, .inl (fun _ => 0))), (q2, .inl (G.2.2.2 3, 7, .inr (.inr (.inr (.inr (fun j => ([q3, q4, q5, q6, q7, q8, q9] : List Nat)[j]?)))))), (q3, .inl (G.2.2.2 0, 64, .inl (fun _ => 0))), (q4, .inl (G.2.2.2 0, 64, .inl (fun _ => 0))), (q5, .inl (G.2.2.2 0, 64, .inl (fun _ => 0))), (q6, .inl (G.2.2.2 0, 64, .inl (fun _ => 0))), (q7, .inl (G.2.2.2 0, 64, .inl (fun _ => 0))), (q8, .inl (G.2.2.2 0, 64, .inl (fun _ => 0))), (q9, .inl (G.2.2.2 0, 64, .inl (fun _ => 0)))] dX3_init_21 kF_RX3_17 rfl rfl rfl (Nat.le_of_ble_eq_true rfl) rfl ?_
  exact k_ret dX3_init_24 rfl (Nat.le_of_ble_eq_true rfl) (Nat.le_of_ble_eq_true rfl) ⟨q1, q2, q3, q4, q5, q6, q7, q8, q9, rfl⟩
theorem kF_RX4_11 : kF RX4 11 4 0 true (tyX4 0) := ⟨TX4, 3, tyX4, rfl, by decide, inC4, tyX4_ok, nmX4, (dh_in 161 (by decide +kernel) rfl), rfl, rfl, rfl⟩
abbrev mX4_init : dh_M := (yX4_init, cX4_init, 1, none, 1)
set_option maxRecDepth 20000 in
theorem k_X4_init (G : dh_G) (o : Nat) : kC G mX4_init 1 620 [.ref o] [(o, .inr (4, [.null, .int 0, .int 0]))] (fun w => ∃ q1 : Nat, w = [(o, .inr (4, [.ref q1, .int 0, .int 0])), (q1, .inl (G.2.2.2 0, 620, .inl (fun _ => 0)))]) := by
  refine kC_of (by decide +kernel) rfl (Nat.le_of_ble_eq_true rfl) (fun A => ?_)
  show kJ G mX4_init 1 620 A 0 [(0, .ref o)] [] [(o, .inr (4, [.null, .int 0, .int 0]))] 0 0 _
  refine k_aload dX4_init_0 (List.Mem.head _) ?_
  refine k_obj dX4_init_1 (dh_in 160 (by decide +kernel) rfl) kw_o1 kw_o2 (by decide) ?_
  refine k_aload dX4_init_4 (List.Mem.head _) ?_
  refine k_sipush (nI 620) dX4_init_5 (by decide) ?_
  refine k_newI (N := 620) (fun q1 => [(o, .inr (4, [.null, .int 0, .int 0])), (q1, .inl (G.2.2.2 0, 620, .inl (fun _ => 0)))]) dX4_init_8 kw_aI (by decide) (Nat.le_of_ble_eq_true rfl) (Nat.le_of_ble_eq_true rfl) (fun _ => rfl) (fun q1 => ?_)
  refine k_put (q0 := 0) (fs := [.null, .int 0, .int 0]) [(o, .inr (4, [.ref q1, .int 0, .int 0])), (q1, .inl (G.2.2.2 0, 620, .inl (fun _ => 0)))] dX4_init_10 kF_RX4_11 rfl rfl rfl (Nat.le_of_ble_eq_true rfl) rfl ?_
  exact k_ret dX4_init_13 rfl (Nat.le_of_ble_eq_true rfl) (Nat.le_of_ble_eq_true rfl) ⟨q1, rfl⟩
theorem kF_RX5_9 : kF RX5 9 5 5 true (tyX5 5) := ⟨TX5, 12, tyX5, rfl, by decide, inC5, tyX5_ok, nmX5, (dh_in 80 (by decide +kernel) rfl), rfl, rfl, rfl⟩
theorem kF_RX5_15 : kF RX5 15 5 6 true (tyX5 6) := ⟨TX5, 12, tyX5, rfl, by decide, inC5, tyX5_ok, nmX5, (dh_in 82 (by decide +kernel) rfl), rfl, rfl, rfl⟩
theorem kF_RX5_18 : kF RX5 18 5 7 true (tyX5 7) := ⟨TX5, 12, tyX5, rfl, by decide, inC5, tyX5_ok, nmX5, (dh_in 84 (by decide +kernel) rfl), rfl, rfl, rfl⟩
theorem kF_RX5_21 : kF RX5 21 5 8 true (tyX5 8) := ⟨TX5, 12, tyX5, rfl, by decide, inC5, tyX5_ok, nmX5, (dh_in 87 (by decide +kernel) rfl), rfl, rfl, rfl⟩
theorem kF_RX5_24 : kF RX5 24 5 9 true (tyX5 9) := ⟨TX5, 12, tyX5, rfl, by decide, inC5, tyX5_ok, nmX5, (dh_in 89 (by decide +kernel) rfl), rfl, rfl, rfl⟩
theorem kF_RX5_27 : kF RX5 27 5 10 true (tyX5 10) := ⟨TX5, 12, tyX5, rfl, by decide, inC5, tyX5_ok, nmX5, (dh_in 91 (by decide +kernel) rfl), rfl, rfl, rfl⟩
theorem kF_RX5_30 : kF RX5 30 5 11 true (tyX5 11) := ⟨TX5, 12, tyX5, rfl, by decide, inC5, tyX5_ok, nmX5, (dh_in 94 (by decide +kernel) rfl), rfl, rfl, rfl⟩
abbrev mX5_init : dh_M := (yX5_init, cX5_init, 1, none, 1)
set_option maxRecDepth 20000 in
theorem k_X5_init (G : dh_G) (o : Nat) : kC G mX5_init 7 42 [.ref o] [(o, .inr (5, [.int 0, .int 0, .int 0, .int 0, .int 0, .null, .null, .null, .null, .null, .null, .null]))] (fun w => ∃ q1 q2 q3 q4 q5 q6 q7 : Nat, w = [(o, .inr (5, [.int 0, .int 0, .int 0, .int 0, .int 0, .ref q1, .ref q2, .ref q3, .ref q4, .ref q5, .ref q6, .ref q7])), (q1, .inl (G.2.2.2 0, 6, .inl (fun _ => 0))), (q2, .inl (G.2.2.2 0, 6, .inl (fun _ => 0))), (q3, .inl (G.2.2.2 0, 6, .inl (fun _ => 0))), (q4, .inl (G.2.2.2 0, 6, .inl (fun _ => 0))), (q5, .inl (G.2.2.2 0, 6, .inl (fun _ => 0))), (q6, .inl (G.2.2.2 0, 6, .inl (fun _ => 0))), (q7, .inl (G.2.2.2 0, 6, .inl (fun _ => 0)))]) := by
  refine kC_of (by decide +kernel) rfl (Nat.le_of_ble_eq_true rfl) (fun A => ?_)
  show kJ G mX5_init 7 42 A 0 [(0, .ref o)] [] [(o, .inr (5, [.int 0, .int 0, .int 0, .int 0, .int 0, .null, .null, .null, .null, .null, .null, .null]))] 0 0 _
  refine k_aload dX5_init_0 (List.Mem.head _) ?_
  refine k_obj dX5_init_1 (dh_in 57 (by decide +kernel) rfl) kw_o1 kw_o2 (by decide) ?_
  refine k_aload dX5_init_4 (List.Mem.head _) ?_
  refine k_bipush (nI 6) dX5_init_5 (by decide) ?_
  refine k_newI (N := 6) (fun q1 => [(o, .inr (5, [.int 0, .int 0, .int 0, .int 0, .int 0, .null, .null, .null, .null, .null, .null, .null])), (q1, .inl (G.2.2.2 0, 6, .inl (fun _ => 0)))]) dX5_init_7 kw_aI (by decide) (Nat.le_of_ble_eq_true rfl) (Nat.le_of_ble_eq_true rfl) (fun _ => rfl) (fun q1 => ?_)
  refine k_put (q0 := 0) (fs := [.int 0, .int 0, .int 0, .int 0, .int 0, .null, .null, .null, .null, .null, .null, .null]) [(o, .inr (5, [.int 0, .int 0, .int 0, .int 0, .int 0, .ref q1, .null, .null, .null, .null, .null, .null])), (q1, .inl (G.2.2.2 0, 6, .inl (fun _ => 0)))] dX5_init_9 kF_RX5_9 rfl rfl rfl (Nat.le_of_ble_eq_true rfl) rfl ?_
  refine k_aload dX5_init_12 (List.Mem.head _) ?_
  refine k_bipush (nI 6) dX5_init_13 (by decide) ?_
  refine k_newI (N := 6) (fun q2 => [(o, .inr (5, [.int 0, .int 0, .int 0, .int 0, .int 0, .ref q1, .null, .null, .null, .null, .null, .null])), (q1, .inl (G.2.2.2 0, 6, .inl (fun _ => 0))), (q2, .inl (G.2.2.2 0, 6, .inl (fun _ => 0)))]) dX5_init_15 kw_aI (by decide) (Nat.le_of_ble_eq_true rfl) (Nat.le_of_ble_eq_true rfl) (fun _ => rfl) (fun q2 => ?_)
  refine k_put (q0 := 0) (fs := [.int 0, .int 0, .int 0, .int 0, .int 0, .ref q1, .null, .null, .null, .null, .null, .null]) [(o, .inr (5, [.int 0, .int 0, .int 0, .int 0, .int 0, .ref q1, .ref q2, .null, .null, .null, .null, .null])), (q1, .inl (G.2.2.2 0, 6, .inl (fun _ => 0))), (q2, .inl (G.2.2.2 0, 6, .inl (fun _ => 0)))] dX5_init_17 kF_RX5_15 rfl rfl rfl (Nat.le_of_ble_eq_true rfl) rfl ?_
  refine k_aload dX5_init_20 (List.Mem.head _) ?_
  refine k_bipush (nI 6) dX5_init_21 (by decide) ?_
  refine k_newI (N := 6) (fun q3 => [(o, .inr (5, [.int 0, .int 0, .int 0, .int 0, .int 0, .ref q1, .ref q2, .null, .null, .null, .null, .null])), (q1, .inl (G.2.2.2 0, 6, .inl (fun _ => 0))), (q2, .inl (G.2.2.2 0, 6, .inl (fun _ => 0))), (q3, .inl (G.2.2.2 0, 6, .inl (fun _ => 0)))]) dX5_init_23 kw_aI (by decide) (Nat.le_of_ble_eq_true rfl) (Nat.le_of_ble_eq_true rfl) (fun _ => rfl) (fun q3 => ?_)
  refine k_put (q0 := 0) (fs := [.int 0, .int 0, .int 0, .int 0, .int 0, .ref q1, .ref q2, .null, .null, .null, .null, .null]) [(o, .inr (5, [.int 0, .int 0, .int 0, .int 0, .int 0, .ref q1, .ref q2, .ref q3, .null, .null, .null, .null])), (q1, .inl (G.2.2.2 0, 6, .inl (fun _ => 0))), (q2, .inl (G.2.2.2 0, 6, .inl (fun _ => 0))), (q3, .inl (G.2.2.2 0, 6, .inl (fun _ => 0)))] dX5_init_25 kF_RX5_18 rfl rfl rfl (Nat.le_of_ble_eq_true rfl) rfl ?_
  refine k_aload dX5_init_28 (List.Mem.head _) ?_
  refine k_bipush (nI 6) dX5_init_29 (by decide) ?_
  refine k_newI (N := 6) (fun q4 => [(o, .inr (5, [.int 0, .int 0, .int 0, .int 0, .int 0, .ref q1, .ref q2, .ref q3, .null, .null, .null, .null])), (q1, .inl (G.2.2.2 0, 6, .inl (fun _ => 0))), (q2, .inl (G.2.2.2 0, 6, .inl (fun _ => 0))), (q3, .inl (G.2.2.2 0, 6, .inl (fun _ => 0))), (q4, .inl (G.2.2.2 0, 6, .inl (fun _ => 0)))]) dX5_init_31 kw_aI (by decide) (Nat.le_of_ble_eq_true rfl) (Nat.le_of_ble_eq_true rfl) (fun _ => rfl) (fun q4 => ?_)
  refine k_put (q0 := 0) (fs := [.int 0, .int 0, .int 0, .int 0, .int 0, .ref q1, .ref q2, .ref q3, .null, .null, .null, .null]) [(o, .inr (5, [.int 0, .int 0, .int 0, .int 0, .int 0, .ref q1, .ref q2, .ref q3, .ref q4, .null, .null, .null])), (q1, .inl (G.2.2.2 0, 6, .inl (fun _ => 0))), (q2, .inl (G.2.2.2 0, 6, .inl (fun _ => 0))), (q3, .inl (G.2.2.2 0, 6, .inl (fun _ => 0))), (q4, .inl (G.2.2.2 0, 6, .inl (fun _ => 0)))] dX5_init_33 kF_RX5_21 rfl rfl rfl (Nat.le_of_ble_eq_true rfl) rfl ?_
  refine k_aload dX5_init_36 (List.Mem.head _) ?_
  refine k_bipush (nI 6) dX5_init_37 (by decide) ?_
  refine k_newI (N := 6) (fun q5 => [(o, .inr (5, [.int 0, .int 0, .int 0, .int 0, .int 0, .ref q1, .ref q2, .ref q3, .ref q4, .null, .null, .null])), (q1, .inl (G.2.2.2 0, 6, .inl (fun _ => 0))), (q2, .inl (G.2.2.2 0, 6, .inl (fun _ => 0))), (q3, .inl (G.2.2.2 0, 6, .inl (fun _ => 0))), (q4, .inl (G.2.2.2 0, 6, .inl (fun _ => 0))), (q5, .inl (G.2.2.2 0, 6, .inl (fun _ => 0)))]) dX5_init_39 kw_aI (by decide) (Nat.le_of_ble_eq_true rfl) (Nat.le_of_ble_eq_true rfl) (fun _ => rfl) (fun q5 => ?_)
  refine k_put (q0 := 0) (fs := [.int 0, .int 0, .int 0, .int 0, .int 0, .ref q1, .ref q2, .ref q3, .ref q4, .null, .null, .null]) [(o, .inr (5, [.int 0, .int 0, .int 0, .int 0, .int 0, .ref q1, .ref q2, .ref q3, .ref q4, .ref q5, .null, .null])), (q1, .inl (G.2.2.2 0, 6, .inl (fun _ => 0))), (q2, .inl (G.2.2.2 0, 6, .inl (fun _ => 0))), (q3, .inl (G.2.2.2 0, 6, .inl (fun _ => 0))), (q4, .inl (G.2.2.2 0, 6, .inl (fun _ => 0))), (q5, .inl (G.2.2.2 0, 6, .inl (fun _ => 0)))] dX5_init_41 kF_RX5_24 rfl rfl rfl (Nat.le_of_ble_eq_true rfl) rfl ?_
  refine k_aload dX5_init_44 (List.Mem.head _) ?_
  refine k_bipush (nI 6) dX5_init_45 (by decide) ?_
  refine k_newI (N := 6) (fun q6 => [(o, .inr (5, [.int 0, .int 0, .int 0, .int 0, .int 0, .ref q1, .ref q2, .ref q3, .ref q4, .ref q5, .null, .null])), (q1, .inl (G.2.2.2 0, 6, .inl (fun _ => 0))), (q2, .inl (G.2.2.2 0, 6, .inl (fun _ => 0))), (q3, .inl (G.2.2.2 0, 6, .inl (fun _ => 0))), (q4, .inl (G.2.2.2 0, 6, .inl (fun _ => 0))), (q5, .inl (G.2.2.2 0, 6, .inl (fun _ => 0))), (q6, .inl (G.2.2.2 0, 6, .inl (fun _ => 0)))]) dX5_init_47 kw_aI (by decide) (Nat.le_of_ble_eq_true rfl) (Nat.le_of_ble_eq_true rfl) (fun _ => rfl) (fun q6 => ?_)
  refine k_put (q0 := 0) (fs := [.int 0, .int 0, .int 0, .int 0, .int 0, .ref q1, .ref q2, .ref q3, .ref q4, .ref q5, .null, .null]) [(o, .inr (5, [.int 0, .int 0, .int 0, .int 0, .int 0, .ref q1, .ref q2, .ref q3, .ref q4, .ref q5, .ref q6, .null])), (q1, .inl (G.2.2.2 0, 6, .inl (fun _ => 0))), (q2, .inl (G.2.2.2 0, 6, .inl (fun _ => 0))), (q3, .inl (G.2.2.2 0, 6, .inl (fun _ => 0))), (q4, .inl (G.2.2.2 0, 6, .inl (fun _ => 0))), (q5, .inl (G.2.2.2 0, 6, .inl (fun _ => 0))), (q6, .inl (G.2.2.2 0, 6, .inl (fun _ => 0)))] dX5_init_49 kF_RX5_27 rfl rfl rfl (Nat.le_of_ble_eq_true rfl) rfl ?_
  refine k_aload dX5_init_52 (List.Mem.head _) ?_
  refine k_bipush (nI 6) dX5_init_53 (by decide) ?_
  refine k_newI (N := 6) (fun q7 => [(o, .inr (5, [.int 0, .int 0, .int 0, .int 0, .int 0, .ref q1, .ref q2, .ref q3, .ref q4, .ref q5, .ref q6, .null])), (q1, .inl (G.2.2.2 0, 6, .inl (fun _ => 0))), (q2, .inl (G.2.2.2 0, 6, .inl (fun _ => 0))), (q3, .inl (G.2.2.2 0, 6, .inl (fun _ => 0))), (q4, .inl (G.2.2.2 0, 6, .inl (fun _ => 0))), (q5, .inl (G.2.2.2 0, 6, .inl (fun _ => 0))), (q6, .inl (G.2.2.2 0, 6, .inl (fun _ => 0))), (q7, .inl (G.2.2.2 0, 6, .inl (fun _ => 0)))]) dX5_init_55 kw_aI (by decide) (Nat.le_of_ble_eq_true rfl) (Nat.le_of_ble_eq_true rfl) (fun _ => rfl) (fun q7 => ?_)
  refine k_put (q0 := 0) (fs := [.int 0, .int 0, .int 0, .int 0, .int 0, .ref q1, .ref q2, .ref q3, .ref q4, .ref q5, .ref q6, .null]) [(o, .inr (5, [.int 0, .int 0, .int 0, .int 0, .int 0, .ref q1, .ref q2, .ref q3, .ref q4, .ref q5, .ref q6, .ref q7])), (q1, .inl (G.2.2.2 0, 6, .inl (fun _ => 0))), (q2, .inl (G.2.2.2 0, 6, .inl (fun _ => 0))), (q3, .inl (G.2.2.2 0, 6, .inl (fun _ => 0))), (q4, .inl (G.2.2.2 0, 6, .inl (fun _ => 0))), (q5, .inl (G.2.2.2 0, 6, .inl (fun _ => 0))), (q6, .inl (G.2.2.2 0, 6, .inl (fun _ => 0))), (q7, .inl (G.2.2.2 0, 6, .inl (fun _ => 0)))] dX5_init_57 kF_RX5_30 rfl rfl rfl (Nat.le_of_ble_eq_true rfl) rfl ?_
  exact k_ret dX5_init_60 rfl (Nat.le_of_ble_eq_true rfl) (Nat.le_of_ble_eq_true rfl) ⟨q1, q2, q3, q4, q5, q6, q7, rfl⟩
theorem kF_RX6_9 : kF RX6 9 6 0 true (tyX6 0) := ⟨TX6, 6, tyX6, rfl, by decide, inC6, tyX6_ok, nmX6, (dh_in 29 (by decide +kernel) rfl), rfl, rfl, rfl⟩
theorem kF_RX6_15 : kF RX6 15 6 5 false (tyX6 5) := ⟨TX6, 6, tyX6, rfl, by decide, inC6, tyX6_ok, nmX6, (dh_in 36 (by decide +kernel) rfl), rfl, rfl, rfl⟩
abbrev mX6_init : dh_M := (yX6_init, cX6_init, 1, none, 1)
set_option maxRecDepth 20000 in
theorem k_X6_init (G : dh_G) (o : Nat) : kC G mX6_init 1 240 [.ref o] [(o, .inr (6, [.null, .int 0, .int 0, .int 0, .int 0, .int 0]))] (fun w => ∃ q1 : Nat, w = [(o, .inr (6, [.ref q1, .int 0, .int 0, .int 0, .int 0, .int (-1)])), (q1, .inl (G.2.2.2 0, 240, .inl (fun _ => 0)))]) := by
  refine kC_of (by decide +kernel) rfl (Nat.le_of_ble_eq_true rfl) (fun A => ?_)
  show kJ G mX6_init 1 240 A 0 [(0, .ref o)] [] [(o, .inr (6, [.null, .int 0, .int 0, .int 0, .int 0, .int 0]))] 0 0 _
  refine k_aload dX6_init_0 (List.Mem.head _) ?_
  refine k_obj dX6_init_1 (dh_in 28 (by decide +kernel) rfl) kw_o1 kw_o2 (by decide) ?_
  refine k_aload dX6_init_4 (List.Mem.head _) ?_
  refine k_sipush (nI 240) dX6_init_5 (by decide) ?_
  refine k_newI (N := 240) (fun q1 => [(o, .inr (6, [.null, .int 0, .int 0, .int 0, .int 0, .int 0])), (q1, .inl (G.2.2.2 0, 240, .inl (fun _ => 0)))]) dX6_init_8 kw_aI (by decide) (Nat.le_of_ble_eq_true rfl) (Nat.le_of_ble_eq_true rfl) (fun _ => rfl) (fun q1 => ?_)
  refine k_put (q0 := 0) (fs := [.null, .int 0, .int 0, .int 0, .int 0, .int 0]) [(o, .inr (6, [.ref q1, .int 0, .int 0, .int 0, .int 0, .int 0])), (q1, .inl (G.2.2.2 0, 240, .inl (fun _ => 0)))] dX6_init_10 kF_RX6_9 rfl rfl rfl (Nat.le_of_ble_eq_true rfl) rfl ?_
  refine k_aload dX6_init_13 (List.Mem.head _) ?_
  refine k_iconst (-1) dX6_init_14 (by decide) ?_
  refine k_put (q0 := 0) (fs := [.ref q1, .int 0, .int 0, .int 0, .int 0, .int 0]) [(o, .inr (6, [.ref q1, .int 0, .int 0, .int 0, .int 0, .int (-1)])), (q1, .inl (G.2.2.2 0, 240, .inl (fun _ => 0)))] dX6_init_15 kF_RX6_15 rfl rfl rfl (Nat.le_of_ble_eq_true rfl) rfl ?_
  exact k_ret dX6_init_18 rfl (Nat.le_of_ble_eq_true rfl) (Nat.le_of_ble_eq_true rfl) ⟨q1, rfl⟩
theorem kF_RX7_9 : kF RX7 9 7 2 true (tyX7 2) := ⟨TX7, 10, tyX7, rfl, by decide, inC7, tyX7_ok, nmX7, (dh_in 203 (by decide +kernel) rfl), rfl, rfl, rfl⟩
theorem kF_RX7_15 : kF RX7 15 7 3 true (tyX7 3) := ⟨TX7, 10, tyX7, rfl, by decide, inC7, tyX7_ok, nmX7, (dh_in 204 (by decide +kernel) rfl), rfl, rfl, rfl⟩
theorem kF_RX7_18 : kF RX7 18 7 4 true (tyX7 4) := ⟨TX7, 10, tyX7, rfl, by decide, inC7, tyX7_ok, nmX7, (dh_in 205 (by decide +kernel) rfl), rfl, rfl, rfl⟩
theorem kF_RX7_22 : kF RX7 22 7 5 true (tyX7 5) := ⟨TX7, 10, tyX7, rfl, by decide, inC7, tyX7_ok, nmX7, (dh_in 206 (by decide +kernel) rfl), rfl, rfl, rfl⟩
theorem kF_RX7_25 : kF RX7 25 7 7 true (tyX7 7) := ⟨TX7, 10, tyX7, rfl, by decide, inC7, tyX7_ok, nmX7, (dh_in 209 (by decide +kernel) rfl), rfl, rfl, rfl⟩
theorem kF_RX7_28 : kF RX7 28 7 8 true (tyX7 8) := ⟨TX7, 10, tyX7, rfl, by decide, inC7, tyX7_ok, nmX7, (dh_in 210 (by decide +kernel) rfl), rfl, rfl, rfl⟩
theorem kF_RX7_33 : kF RX7 33 7 9 true (tyX7 9) := ⟨TX7, 10, tyX7, rfl, by decide, inC7, tyX7_ok, nmX7, (dh_in 211 (by decide +kernel) rfl), rfl, rfl, rfl⟩
theorem kF_RX7_36 : kF RX7 36 7 0 true (tyX7 0) := ⟨TX7, 10, tyX7, rfl, by decide, inC7, tyX7_ok, nmX7, (dh_in 200 (by decide +kernel) rfl), rfl, rfl, rfl⟩
abbrev mX7_init : dh_M := (yX7_init, cX7_init, 2, none, 1)
set_option maxRecDepth 20000 in
theorem k_X7_init (G : dh_G) (o pl : Nat) : kC G mX7_init 13 200 [.ref o, .ref pl] [(o, .inr (7, [.null, .int 0, .null, .null, .null, .null, .int 0, .null, .null, .null]))] (fun w => ∃ q1 q2 q3 q4 q5 q6 q7 q8 q9 q10 q11 q12 q13 : Nat, w = [(o, .inr (7, [.ref pl, .int 0, .ref q1, .ref q2, .ref q3, .ref q4, .int 0, .ref q5, .ref q6, .ref q7])), (q1, .inl (G.2.2.2 0, 8, .inl (fun _ => 0))), (q2, .inl (G.2.2.2 0, 8, .inl (fun _ => 0))), (q3, .inl (G.2.2.2 1, 8, .inl (fun _ => 0))), (q4, .inl (G.2.2.2 0, 6, .inl (fun _ => 0))), (q5, .inl (G.2.2.2 0, 64, .inl (fun _ => 0))), (q6, .inl (G.2.2.2 0, 64, .inl (fun _ => 0))), (q7, .inl (G.2.2.2 3, 6, .inr (.inr (.inr (.inr (fun j => ([q8, q9, q10, q11, q12, q13] : List Nat)[j]?)))))), (q8, .inl (G.2.2.2 0, 6, .inl (fun _ => 0))), (q9, .inl (G.2.2.2 0, 6, .inl (fun _ => 0))), (q10, .inl (G.2.2.2 0, 6, .inl (fun _ => 0))), (q11, .inl (G.2.2.2 0, 6, .inl (fun _ => 0))), (q12, .inl (G.2.2.2 0, 6, .inl (fun _ => 0))), (q13, .inl (G.2.2.2 0, 6, .inl (fun _ => 0)))]) := by
  refine kC_of (by decide +kernel) rfl (Nat.le_of_ble_eq_true rfl) (fun A => ?_)
  show kJ G mX7_init 13 200 A 0 [(0, .ref o), (1, .ref pl)] [] [(o, .inr (7, [.null, .int 0, .null, .null, .null, .null, .int 0, .null, .null, .null]))] 0 0 _
  refine k_aload dX7_init_0 (List.Mem.head _) ?_
  refine k_obj dX7_init_1 (dh_in 198 (by decide +kernel) rfl) kw_o1 kw_o2 (by decide) ?_
  refine k_aload dX7_init_4 (List.Mem.head _) ?_
  refine k_bipush (nI 8) dX7_init_5 (by decide) ?_
  refine k_newI (N := 8) (fun q1 => [(o, .inr (7, [.null, .int 0, .null, .null, .null, .null, .int 0, .null, .null, .null])), (q1, .inl (G.2.2.2 0, 8, .inl (fun _ => 0)))]) dX7_init_7 kw_aI (by decide) (Nat.le_of_ble_eq_true rfl) (Nat.le_of_ble_eq_true rfl) (fun _ => rfl) (fun q1 => ?_)
  refine k_put (q0 := 0) (fs := [.null, .int 0, .null, .null, .null, .null, .int 0, .null, .null, .null]) [(o, .inr (7, [.null, .int 0, .ref q1, .null, .null, .null, .int 0, .null, .null, .null])), (q1, .inl (G.2.2.2 0, 8, .inl (fun _ => 0)))] dX7_init_9 kF_RX7_9 rfl rfl rfl (Nat.le_of_ble_eq_true rfl) rfl ?_
  refine k_aload dX7_init_12 (List.Mem.head _) ?_
  refine k_bipush (nI 8) dX7_init_13 (by decide) ?_
  refine k_newI (N := 8) (fun q2 => [(o, .inr (7, [.null, .int 0, .ref q1, .null, .null, .null, .int 0, .null, .null, .null])), (q1, .inl (G.2.2.2 0, 8, .inl (fun _ => 0))), (q2, .inl (G.2.2.2 0, 8, .inl (fun _ => 0)))]) dX7_init_15 kw_aI (by decide) (Nat.le_of_ble_eq_true rfl) (Nat.le_of_ble_eq_true rfl) (fun _ => rfl) (fun q2 => ?_)
  refine k_put (q0 := 0) (fs := [.null, .int 0, .ref q1, .null, .null, .null, .int 0, .null, .null, .null]) [(o, .inr (7, [.null, .int 0, .ref q1, .ref q2, .null, .null, .int 0, .null, .null, .null])), (q1, .inl (G.2.2.2 0, 8, .inl (fun _ => 0))), (q2, .inl (G.2.2.2 0, 8, .inl (fun _ => 0)))] dX7_init_17 kF_RX7_15 rfl rfl rfl (Nat.le_of_ble_eq_true rfl) rfl ?_
  refine k_aload dX7_init_20 (List.Mem.head _) ?_
  refine k_bipush (nI 8) dX7_init_21 (by decide) ?_
  refine k_newB (N := 8) (fun q3 => [(o, .inr (7, [.null, .int 0, .ref q1, .ref q2, .null, .null, .int 0, .null, .null, .null])), (q1, .inl (G.2.2.2 0, 8, .inl (fun _ => 0))), (q2, .inl (G.2.2.2 0, 8, .inl (fun _ => 0))), (q3, .inl (G.2.2.2 1, 8, .inl (fun _ => 0)))]) dX7_init_23 kw_aB (by decide) (Nat.le_of_ble_eq_true rfl) (Nat.le_of_ble_eq_true rfl) (fun _ => rfl) (fun q3 => ?_)
  refine k_put (q0 := 0) (fs := [.null, .int 0, .ref q1, .ref q2, .null, .null, .int 0, .null, .null, .null]) [(o, .inr (7, [.null, .int 0, .ref q1, .ref q2, .ref q3, .null, .int 0, .null, .null, .null])), (q1, .inl (G.2.2.2 0, 8, .inl (fun _ => 0))), (q2, .inl (G.2.2.2 0, 8, .inl (fun _ => 0))), (q3, .inl (G.2.2.2 1, 8, .inl (fun _ => 0)))] dX7_init_25 kF_RX7_18 rfl rfl rfl (Nat.le_of_ble_eq_true rfl) rfl ?_
  refine k_aload dX7_init_28 (List.Mem.head _) ?_
  refine k_bipush (nI 6) dX7_init_29 (by decide) ?_
  refine k_newI (N := 6) (fun q4 => [(o, .inr (7, [.null, .int 0, .ref q1, .ref q2, .ref q3, .null, .int 0, .null, .null, .null])), (q1, .inl (G.2.2.2 0, 8, .inl (fun _ => 0))), (q2, .inl (G.2.2.2 0, 8, .inl (fun _ => 0))), (q3, .inl (G.2.2.2 1, 8, .inl (fun _ => 0))), (q4, .inl (G.2.2.2 0, 6, .inl (fun _ => 0)))]) dX7_init_31 kw_aI (by decide) (Nat.le_of_ble_eq_true rfl) (Nat.le_of_ble_eq_true rfl) (fun _ => rfl) (fun q4 => ?_)
  refine k_put (q0 := 0) (fs := [.null, .int 0, .ref q1, .ref q2, .ref q3, .null, .int 0, .null, .null, .null]) [(o, .inr (7, [.null, .int 0, .ref q1, .ref q2, .ref q3, .ref q4, .int 0, .null, .null, .null])), (q1, .inl (G.2.2.2 0, 8, .inl (fun _ => 0))), (q2, .inl (G.2.2.2 0, 8, .inl (fun _ => 0))), (q3, .inl (G.2.2.2 1, 8, .inl (fun _ => 0))), (q4, .inl (G.2.2.2 0, 6, .inl (fun _ => 0)))] dX7_init_33 kF_RX7_22 rfl rfl rfl (Nat.le_of_ble_eq_true rfl) rfl ?_
  refine k_aload dX7_init_36 (List.Mem.head _) ?_
  refine k_bipush (nI 64) dX7_init_37 (by decide) ?_
  refine k_newI (N := 64) (fun q5 => [(o, .inr (7, [.null, .int 0, .ref q1, .ref q2, .ref q3, .ref q4, .int 0, .null, .null, .null])), (q1, .inl (G.2.2.2 0, 8, .inl (fun _ => 0))), (q2, .inl (G.2.2.2 0, 8, .inl (fun _ => 0))), (q3, .inl (G.2.2.2 1, 8, .inl (fun _ => 0))), (q4, .inl (G.2.2.2 0, 6, .inl (fun _ => 0))), (q5, .inl (G.2.2.2 0, 64, .inl (fun _ => 0)))]) dX7_init_39 kw_aI (by decide) (Nat.le_of_ble_eq_true rfl) (Nat.le_of_ble_eq_true rfl) (fun _ => rfl) (fun q5 => ?_)
  refine k_put (q0 := 0) (fs := [.null, .int 0, .ref q1, .ref q2, .ref q3, .ref q4, .int 0, .null, .null, .null]) [(o, .inr (7, [.null, .int 0, .ref q1, .ref q2, .ref q3, .ref q4, .int 0, .ref q5, .null, .null])), (q1, .inl (G.2.2.2 0, 8, .inl (fun _ => 0))), (q2, .inl (G.2.2.2 0, 8, .inl (fun _ => 0))), (q3, .inl (G.2.2.2 1, 8, .inl (fun _ => 0))), (q4, .inl (G.2.2.2 0, 6, .inl (fun _ => 0))), (q5, .inl (G.2.2.2 0, 64, .inl (fun _ => 0)))] dX7_init_41 kF_RX7_25 rfl rfl rfl (Nat.le_of_ble_eq_true rfl) rfl ?_
  refine k_aload dX7_init_44 (List.Mem.head _) ?_
  refine k_bipush (nI 64) dX7_init_45 (by decide) ?_
  refine k_newI (N := 64) (fun q6 => [(o, .inr (7, [.null, .int 0, .ref q1, .ref q2, .ref q3, .ref q4, .int 0, .ref q5, .null, .null])), (q1, .inl (G.2.2.2 0, 8, .inl (fun _ => 0))), (q2, .inl (G.2.2.2 0, 8, .inl (fun _ => 0))), (q3, .inl (G.2.2.2 1, 8, .inl (fun _ => 0))), (q4, .inl (G.2.2.2 0, 6, .inl (fun _ => 0))), (q5, .inl (G.2.2.2 0, 64, .inl (fun _ => 0))), (q6, .inl (G.2.2.2 0, 64, .inl (fun _ => 0)))]) dX7_init_47 kw_aI (by decide) (Nat.le_of_ble_eq_true rfl) (Nat.le_of_ble_eq_true rfl) (fun _ => rfl) (fun q6 => ?_)
  refine k_put (q0 := 0) (fs := [.null, .int 0, .ref q1, .ref q2, .ref q3, .ref q4, .int 0, .ref q5, .null, .null]) [(o, .inr (7, [.null, .int 0, .ref q1, .ref q2, .ref q3, .ref q4, .int 0, .ref q5, .ref q6, .null])), (q1, .inl (G.2.2.2 0, 8, .inl (fun _ => 0))), (q2, .inl (G.2.2.2 0, 8, .inl (fun _ => 0))), (q3, .inl (G.2.2.2 1, 8, .inl (fun _ => 0))), (q4, .inl (G.2.2.2 0, 6, .inl (fun _ => 0))), (q5, .inl (G.2.2.2 0, 64, .inl (fun _ => 0))), (q6, .inl (G.2.2.2 0, 64, .inl (fun _ => 0)))] dX7_init_49 kF_RX7_28 rfl rfl rfl (Nat.le_of_ble_eq_true rfl) rfl ?_
  refine k_aload dX7_init_52 (List.Mem.head _) ?_
  refine k_bipush (nI 6) dX7_init_53 (by decide) ?_
  refine k_bipush (nI 6) dX7_init_55 (by decide) ?_
  refine k_multi (N := 6) (N2 := 6) dX7_init_57 (dh_in 199 (by decide +kernel) rfl) (by decide) (by decide) (Nat.le_of_ble_eq_true rfl) (Nat.le_of_ble_eq_true rfl) (fun q7 rs hrs => ?_)
  obtain ⟨q8, q9, q10, q11, q12, q13, rfl⟩ := k_len6 hrs
  show kJ G mX7_init 13 200 A 61 [(0, .ref o), (1, .ref pl)] [.ref q7, .ref o] [(o, .inr (7, [.null, .int 0, .ref q1, .ref q2, .ref q3, .ref q4, .int 0, .ref q5, .ref q6, .null])), (q1, .inl (G.2.2.2 0, 8, .inl (fun _ => 0))), (q2, .inl (G.2.2.2 0, 8, .inl (fun _ => 0))), (q3, .inl (G.2.2.2 1, 8, .inl (fun _ => 0))), (q4, .inl (G.2.2.2 0, 6, .inl (fun _ => 0))), (q5, .inl (G.2.2.2 0, 64, .inl (fun _ => 0))), (q6, .inl (G.2.2.2 0, 64, .inl (fun _ => 0))), (q7, .inl (G.2.2.2 3, 6, .inr (.inr (.inr (.inr (fun j => ([q8, q9, q10, q11, q12, q13] : List Nat)[j]?)))))), (q8, .inl (G.2.2.2 0, 6, .inl (fun _ => 0))), (q9, .inl (G.2.2.2 0, 6, .inl (fun _ => 0))), (q10, .inl (G.2.2.2 0, 6, .inl (fun _ => 0))), (q11, .inl (G.2.2.2 0, 6, .inl (fun _ => 0))), (q12, .inl (G.2.2.2 0, 6, .inl (fun _ => 0))), (q13, .inl (G.2.2.2 0, 6, .inl (fun _ => 0)))] _ _ _
  refine k_put (q0 := 0) (fs := [.null, .int 0, .ref q1, .ref q2, .ref q3, .ref q4, .int 0, .ref q5, .ref q6, .null]) [(o, .inr (7, [.null, .int 0, .ref q1, .ref q2, .ref q3, .ref q4, .int 0, .ref q5, .ref q6, .ref q7])), (q1, .inl (G.2.2.2 0, 8, .inl (fun _ => 0))), (q2, .inl (G.2.2.2 0, 8, .inl (fun _ => 0))), (q3, .inl (G.2.2.2 1, 8, .inl (fun _ => 0))), (q4, .inl (G.2.2.2 0, 6, .inl (fun _ => 0))), (q5, .inl (G.2.2.2 0, 64, .inl (fun _ => 0))), (q6, .inl (G.2.2.2 0, 64, .inl (fun _ => 0))), (q7, .inl (G.2.2.2 3, 6, .inr (.inr (.inr (.inr (fun j => ([q8, q9, q10, q11, q12, q13] : List Nat)[j]?)))))), (q8, .inl (G.2.2.2 0, 6, .inl (fun _ => 0))), (q9, .inl (G.2.2.2 0, 6, .inl (fun _ => 0))), (q10, .inl (G.2.2.2 0, 6, .inl (fun _ => 0))), (q11, .inl (G.2.2.2 0, 6, .inl (fun _ => 0))), (q12, .inl (G.2.2.2 0, 6, .inl (fun _ => 0))), (q13, .inl (G.2.2.2 0, 6, .inl (fun _ => 0)))] dX7_init_61 kF_RX7_33 rfl rfl rfl (Nat.le_of_ble_eq_true rfl) rfl ?_
  refine k_aload dX7_init_64 (List.Mem.head _) ?_
  refine k_aload dX7_init_65 (List.Mem.tail _ (List.Mem.head _)) ?_
  refine k_put (q0 := 0) (fs := [.null, .int 0, .ref q1, .ref q2, .ref q3, .ref q4, .int 0, .ref q5, .ref q6, .ref q7]) [(o, .inr (7, [.ref pl, .int 0, .ref q1, .ref q2, .ref q3, .ref q4, .int 0, .ref q5, .ref q6, .ref q7])), (q1, .inl (G.2.2.2 0, 8, .inl (fun _ => 0))), (q2, .inl (G.2.2.2 0, 8, .inl (fun _ => 0))), (q3, .inl (G.2.2.2 1, 8, .inl (fun _ => 0))), (q4, .inl (G.2.2.2 0, 6, .inl (fun _ => 0))), (q5, .inl (G.2.2.2 0, 64, .inl (fun _ => 0))), (q6, .inl (G.2.2.2 0, 64, .inl (fun _ => 0))), (q7, .inl (G.2.2.2 3, 6, .inr (.inr (.inr (.inr (fun j => ([q8, q9, q10, q11, q12, q13] : List Nat)[j]?)))))), (q8, .inl (G.2.2.2 0, 6, .inl (fun _ => 0))), (q9, .inl (G.2.2.2 0, 6, .inl (fun _ => 0))), (q10, .inl (G.2.2.2 0, 6, .inl (fun _ => 0))), (q11, .inl (G.2.2.2 0, 6, .inl (fun _ => 0))), (q12, .inl (G.2.2.2 0, 6, .inl (fun _ => 0))), (q13, .inl (G.2.2.2 0, 6, .inl (fun _ => 0)))] dX7_init_66 kF_RX7_36 rfl rfl rfl (Nat.le_of_ble_eq_true rfl) rfl ?_
  exact k_ret dX7_init_69 rfl (Nat.le_of_ble_eq_true rfl) (Nat.le_of_ble_eq_true rfl) ⟨q1, q2, q3, q4, q5, q6, q7, q8, q9, q10, q11, q12, q13, rfl⟩
theorem kF_RX8_9 : kF RX8 9 8 2 true (tyX8 2) := ⟨TX8, 7, tyX8, rfl, by decide, inC8, tyX8_ok, nmX8, (dh_in 130 (by decide +kernel) rfl), rfl, rfl, rfl⟩
theorem kF_RX8_15 : kF RX8 15 8 3 true (tyX8 3) := ⟨TX8, 7, tyX8, rfl, by decide, inC8, tyX8_ok, nmX8, (dh_in 132 (by decide +kernel) rfl), rfl, rfl, rfl⟩
theorem kF_RX8_18 : kF RX8 18 8 4 true (tyX8 4) := ⟨TX8, 7, tyX8, rfl, by decide, inC8, tyX8_ok, nmX8, (dh_in 134 (by decide +kernel) rfl), rfl, rfl, rfl⟩
theorem kF_RX8_21 : kF RX8 21 8 5 true (tyX8 5) := ⟨TX8, 7, tyX8, rfl, by decide, inC8, tyX8_ok, nmX8, (dh_in 136 (by decide +kernel) rfl), rfl, rfl, rfl⟩
theorem kF_RX8_24 : kF RX8 24 8 6 true (tyX8 6) := ⟨TX8, 7, tyX8, rfl, by decide, inC8, tyX8_ok, nmX8, (dh_in 138 (by decide +kernel) rfl), rfl, rfl, rfl⟩
theorem kF_RX8_27 : kF RX8 27 8 0 true (tyX8 0) := ⟨TX8, 7, tyX8, rfl, by decide, inC8, tyX8_ok, nmX8, (dh_in 127 (by decide +kernel) rfl), rfl, rfl, rfl⟩
abbrev mX8_init : dh_M := (yX8_init, cX8_init, 2, none, 1)
set_option maxRecDepth 20000 in
theorem k_X8_init (G : dh_G) (o pl : Nat) : kC G mX8_init 5 30 [.ref o, .ref pl] [(o, .inr (8, [.null, .int 0, .null, .null, .null, .null, .null]))] (fun w => ∃ q1 q2 q3 q4 q5 : Nat, w = [(o, .inr (8, [.ref pl, .int 0, .ref q1, .ref q2, .ref q3, .ref q4, .ref q5])), (q1, .inl (G.2.2.2 0, 6, .inl (fun _ => 0))), (q2, .inl (G.2.2.2 0, 6, .inl (fun _ => 0))), (q3, .inl (G.2.2.2 0, 6, .inl (fun _ => 0))), (q4, .inl (G.2.2.2 0, 6, .inl (fun _ => 0))), (q5, .inl (G.2.2.2 0, 6, .inl (fun _ => 0)))]) := by
  refine kC_of (by decide +kernel) rfl (Nat.le_of_ble_eq_true rfl) (fun A => ?_)
  show kJ G mX8_init 5 30 A 0 [(0, .ref o), (1, .ref pl)] [] [(o, .inr (8, [.null, .int 0, .null, .null, .null, .null, .null]))] 0 0 _
  refine k_aload dX8_init_0 (List.Mem.head _) ?_
  refine k_obj dX8_init_1 (dh_in 126 (by decide +kernel) rfl) kw_o1 kw_o2 (by decide) ?_
  refine k_aload dX8_init_4 (List.Mem.head _) ?_
  refine k_bipush (nI 6) dX8_init_5 (by decide) ?_
  refine k_newI (N := 6) (fun q1 => [(o, .inr (8, [.null, .int 0, .null, .null, .null, .null, .null])), (q1, .inl (G.2.2.2 0, 6, .inl (fun _ => 0)))]) dX8_init_7 kw_aI (by decide) (Nat.le_of_ble_eq_true rfl) (Nat.le_of_ble_eq_true rfl) (fun _ => rfl) (fun q1 => ?_)
  refine k_put (q0 := 0) (fs := [.null, .int 0, .null, .null, .null, .null, .null]) [(o, .inr (8, [.null, .int 0, .ref q1, .null, .null, .null, .null])), (q1, .inl (G.2.2.2 0, 6, .inl (fun _ => 0)))] dX8_init_9 kF_RX8_9 rfl rfl rfl (Nat.le_of_ble_eq_true rfl) rfl ?_
  refine k_aload dX8_init_12 (List.Mem.head _) ?_
  refine k_bipush (nI 6) dX8_init_13 (by decide) ?_
  refine k_newI (N := 6) (fun q2 => [(o, .inr (8, [.null, .int 0, .ref q1, .null, .null, .null, .null])), (q1, .inl (G.2.2.2 0, 6, .inl (fun _ => 0))), (q2, .inl (G.2.2.2 0, 6, .inl (fun _ => 0)))]) dX8_init_15 kw_aI (by decide) (Nat.le_of_ble_eq_true rfl) (Nat.le_of_ble_eq_true rfl) (fun _ => rfl) (fun q2 => ?_)
  refine k_put (q0 := 0) (fs := [.null, .int 0, .ref q1, .null, .null, .null, .null]) [(o, .inr (8, [.null, .int 0, .ref q1, .ref q2, .null, .null, .null])), (q1, .inl (G.2.2.2 0, 6, .inl (fun _ => 0))), (q2, .inl (G.2.2.2 0, 6, .inl (fun _ => 0)))] dX8_init_17 kF_RX8_15 rfl rfl rfl (Nat.le_of_ble_eq_true rfl) rfl ?_
  refine k_aload dX8_init_20 (List.Mem.head _) ?_
  refine k_bipush (nI 6) dX8_init_21 (by decide) ?_
  refine k_newI (N := 6) (fun q3 => [(o, .inr (8, [.null, .int 0, .ref q1, .ref q2, .null, .null, .null])), (q1, .inl (G.2.2.2 0, 6, .inl (fun _ => 0))), (q2, .inl (G.2.2.2 0, 6, .inl (fun _ => 0))), (q3, .inl (G.2.2.2 0, 6, .inl (fun _ => 0)))]) dX8_init_23 kw_aI (by decide) (Nat.le_of_ble_eq_true rfl) (Nat.le_of_ble_eq_true rfl) (fun _ => rfl) (fun q3 => ?_)
  refine k_put (q0 := 0) (fs := [.null, .int 0, .ref q1, .ref q2, .null, .null, .null]) [(o, .inr (8, [.null, .int 0, .ref q1, .ref q2, .ref q3, .null, .null])), (q1, .inl (G.2.2.2 0, 6, .inl (fun _ => 0))), (q2, .inl (G.2.2.2 0, 6, .inl (fun _ => 0))), (q3, .inl (G.2.2.2 0, 6, .inl (fun _ => 0)))] dX8_init_25 kF_RX8_18 rfl rfl rfl (Nat.le_of_ble_eq_true rfl) rfl ?_
  refine k_aload dX8_init_28 (List.Mem.head _) ?_
  refine k_bipush (nI 6) dX8_init_29 (by decide) ?_
  refine k_newI (N := 6) (fun q4 => [(o, .inr (8, [.null, .int 0, .ref q1, .ref q2, .ref q3, .null, .null])), (q1, .inl (G.2.2.2 0, 6, .inl (fun _ => 0))), (q2, .inl (G.2.2.2 0, 6, .inl (fun _ => 0))), (q3, .inl (G.2.2.2 0, 6, .inl (fun _ => 0))), (q4, .inl (G.2.2.2 0, 6, .inl (fun _ => 0)))]) dX8_init_31 kw_aI (by decide) (Nat.le_of_ble_eq_true rfl) (Nat.le_of_ble_eq_true rfl) (fun _ => rfl) (fun q4 => ?_)
  refine k_put (q0 := 0) (fs := [.null, .int 0, .ref q1, .ref q2, .ref q3, .null, .null]) [(o, .inr (8, [.null, .int 0, .ref q1, .ref q2, .ref q3, .ref q4, .null])), (q1, .inl (G.2.2.2 0, 6, .inl (fun _ => 0))), (q2, .inl (G.2.2.2 0, 6, .inl (fun _ => 0))), (q3, .inl (G.2.2.2 0, 6, .inl (fun _ => 0))), (q4, .inl (G.2.2.2 0, 6, .inl (fun _ => 0)))] dX8_init_33 kF_RX8_21 rfl rfl rfl (Nat.le_of_ble_eq_true rfl) rfl ?_
  refine k_aload dX8_init_36 (List.Mem.head _) ?_
  refine k_bipush (nI 6) dX8_init_37 (by decide) ?_
  refine k_newI (N := 6) (fun q5 => [(o, .inr (8, [.null, .int 0, .ref q1, .ref q2, .ref q3, .ref q4, .null])), (q1, .inl (G.2.2.2 0, 6, .inl (fun _ => 0))), (q2, .inl (G.2.2.2 0, 6, .inl (fun _ => 0))), (q3, .inl (G.2.2.2 0, 6, .inl (fun _ => 0))), (q4, .inl (G.2.2.2 0, 6, .inl (fun _ => 0))), (q5, .inl (G.2.2.2 0, 6, .inl (fun _ => 0)))]) dX8_init_39 kw_aI (by decide) (Nat.le_of_ble_eq_true rfl) (Nat.le_of_ble_eq_true rfl) (fun _ => rfl) (fun q5 => ?_)
  refine k_put (q0 := 0) (fs := [.null, .int 0, .ref q1, .ref q2, .ref q3, .ref q4, .null]) [(o, .inr (8, [.null, .int 0, .ref q1, .ref q2, .ref q3, .ref q4, .ref q5])), (q1, .inl (G.2.2.2 0, 6, .inl (fun _ => 0))), (q2, .inl (G.2.2.2 0, 6, .inl (fun _ => 0))), (q3, .inl (G.2.2.2 0, 6, .inl (fun _ => 0))), (q4, .inl (G.2.2.2 0, 6, .inl (fun _ => 0))), (q5, .inl (G.2.2.2 0, 6, .inl (fun _ => 0)))] dX8_init_41 kF_RX8_24 rfl rfl rfl (Nat.le_of_ble_eq_true rfl) rfl ?_
  refine k_aload dX8_init_44 (List.Mem.head _) ?_
  refine k_aload dX8_init_45 (List.Mem.tail _ (List.Mem.head _)) ?_
  refine k_put (q0 := 0) (fs := [.null, .int 0, .ref q1, .ref q2, .ref q3, .ref q4, .ref q5]) [(o, .inr (8, [.ref pl, .int 0, .ref q1, .ref q2, .ref q3, .ref q4, .ref q5])), (q1, .inl (G.2.2.2 0, 6, .inl (fun _ => 0))), (q2, .inl (G.2.2.2 0, 6, .inl (fun _ => 0))), (q3, .inl (G.2.2.2 0, 6, .inl (fun _ => 0))), (q4, .inl (G.2.2.2 0, 6, .inl (fun _ => 0))), (q5, .inl (G.2.2.2 0, 6, .inl (fun _ => 0)))] dX8_init_46 kF_RX8_27 rfl rfl rfl (Nat.le_of_ble_eq_true rfl) rfl ?_
  exact k_ret dX8_init_49 rfl (Nat.le_of_ble_eq_true rfl) (Nat.le_of_ble_eq_true rfl) ⟨q1, q2, q3, q4, q5, rfl⟩
theorem kF_RX10_7 : kF RX10 7 10 1 true (tyX10 1) := ⟨TX10, 39, tyX10, rfl, by decide, inC10, tyX10_ok, nmX10, (dh_in 761 (by decide +kernel) rfl), rfl, rfl, rfl⟩
theorem kF_RX10_13 : kF RX10 13 10 7 false (tyX10 7) := ⟨TX10, 39, tyX10, rfl, by decide, inC10, tyX10_ok, nmX10, (dh_in 767 (by decide +kernel) rfl), rfl, rfl, rfl⟩
theorem kF_RX10_17 : kF RX10 17 10 14 true (tyX10 14) := ⟨TX10, 39, tyX10, rfl, by decide, inC10, tyX10_ok, nmX10, (dh_in 774 (by decide +kernel) rfl), rfl, rfl, rfl⟩
theorem kF_RX10_20 : kF RX10 20 10 15 true (tyX10 15) := ⟨TX10, 39, tyX10, rfl, by decide, inC10, tyX10_ok, nmX10, (dh_in 775 (by decide +kernel) rfl), rfl, rfl, rfl⟩
theorem kF_RX10_23 : kF RX10 23 10 21 true (tyX10 21) := ⟨TX10, 39, tyX10, rfl, by decide, inC10, tyX10_ok, nmX10, (dh_in 781 (by decide +kernel) rfl), rfl, rfl, rfl⟩
theorem kF_RX10_26 : kF RX10 26 10 22 true (tyX10 22) := ⟨TX10, 39, tyX10, rfl, by decide, inC10, tyX10_ok, nmX10, (dh_in 782 (by decide +kernel) rfl), rfl, rfl, rfl⟩
theorem kF_RX10_29 : kF RX10 29 10 23 true (tyX10 23) := ⟨TX10, 39, tyX10, rfl, by decide, inC10, tyX10_ok, nmX10, (dh_in 783 (by decide +kernel) rfl), rfl, rfl, rfl⟩
theorem kF_RX10_32 : kF RX10 32 10 24 true (tyX10 24) := ⟨TX10, 39, tyX10, rfl, by decide, inC10, tyX10_ok, nmX10, (dh_in 784 (by decide +kernel) rfl), rfl, rfl, rfl⟩
theorem kF_RX10_35 : kF RX10 35 10 25 true (tyX10 25) := ⟨TX10, 39, tyX10, rfl, by decide, inC10, tyX10_ok, nmX10, (dh_in 785 (by decide +kernel) rfl), rfl, rfl, rfl⟩
theorem kF_RX10_38 : kF RX10 38 10 27 true (tyX10 27) := ⟨TX10, 39, tyX10, rfl, by decide, inC10, tyX10_ok, nmX10, (dh_in 787 (by decide +kernel) rfl), rfl, rfl, rfl⟩
theorem kF_RX10_41 : kF RX10 41 10 28 true (tyX10 28) := ⟨TX10, 39, tyX10, rfl, by decide, inC10, tyX10_ok, nmX10, (dh_in 788 (by decide +kernel) rfl), rfl, rfl, rfl⟩
theorem kF_RX10_44 : kF RX10 44 10 29 true (tyX10 29) := ⟨TX10, 39, tyX10, rfl, by decide, inC10, tyX10_ok, nmX10, (dh_in 789 (by decide +kernel) rfl), rfl, rfl, rfl⟩
theorem kF_RX10_48 : kF RX10 48 10 32 true (tyX10 32) := ⟨TX10, 39, tyX10, rfl, by decide, inC10, tyX10_ok, nmX10, (dh_in 792 (by decide +kernel) rfl), rfl, rfl, rfl⟩
theorem kF_RX10_51 : kF RX10 51 10 34 true (tyX10 34) := ⟨TX10, 39, tyX10, rfl, by decide, inC10, tyX10_ok, nmX10, (dh_in 794 (by decide +kernel) rfl), rfl, rfl, rfl⟩
theorem kF_RX10_54 : kF RX10 54 10 35 true (tyX10 35) := ⟨TX10, 39, tyX10, rfl, by decide, inC10, tyX10_ok, nmX10, (dh_in 795 (by decide +kernel) rfl), rfl, rfl, rfl⟩
theorem kF_RX10_57 : kF RX10 57 10 36 true (tyX10 36) := ⟨TX10, 39, tyX10, rfl, by decide, inC10, tyX10_ok, nmX10, (dh_in 796 (by decide +kernel) rfl), rfl, rfl, rfl⟩
theorem kF_RX10_60 : kF RX10 60 10 37 true (tyX10 37) := ⟨TX10, 39, tyX10, rfl, by decide, inC10, tyX10_ok, nmX10, (dh_in 797 (by decide +kernel) rfl), rfl, rfl, rfl⟩
theorem kF_RX10_63 : kF RX10 63 10 38 true (tyX10 38) := ⟨TX10, 39, tyX10, rfl, by decide, inC10, tyX10_ok, nmX10, (dh_in 798 (by decide +kernel) rfl), rfl, rfl, rfl⟩
abbrev mX10_init : dh_M := (yX10_init, cX10_init, 1, none, 1)
set_option maxRecDepth 20000 in
theorem k_X10_init (G : dh_G) (o : Nat) : kC G mX10_init 17 1180 [.ref o] [(o, .inr (10, [.int 0, .null, .int 0, .int 0, .int 0, .int 0, .int 0, .int 0, .int 0, .int 0, .int 0, .int 0, .int 0, .int 0, .null, .null, .int 0, .int 0, .int 0, .int 0, .int 0, .null, .null, .null, .null, .null, .int 0, .null, .null, .null, .int 0, .int 0, .null, .int 0, .null, .null, .null, .null, .null]))] (fun w => ∃ q1 q2 q3 q4 q5 q6 q7 q8 q9 q10 q11 q12 q13 q14 q15 q16 q17 : Nat, w = [(o, .inr (10, [.int 0, .ref q1, .int 0, .int 0, .int 0, .int 0, .int 0, .int (-1), .int 0, .int 0, .int 0, .int 0, .int 0, .int 0, .ref q2, .ref q3, .int 0, .int 0, .int 0, .int 0, .int 0, .ref q4, .ref q5, .ref q6, .ref q7, .ref q8, .int 0, .ref q9, .ref q10, .ref q11, .int 0, .int 0, .ref q12, .int 0, .ref q13, .ref q14, .ref q15, .ref q16, .ref q17])), (q1, .inl (G.2.2.2 0, 240, .inl (fun _ => 0))), (q2, .inl (G.2.2.2 0, 12, .inl (fun _ => 0))), (q3, .inl (G.2.2.2 0, 24, .inl (fun _ => 0))), (q4, .inl (G.2.2.2 0, 12, .inl (fun _ => 0))), (q5, .inl (G.2.2.2 0, 24, .inl (fun _ => 0))), (q6, .inl (G.2.2.2 0, 6, .inl (fun _ => 0))), (q7, .inl (G.2.2.2 0, 32, .inl (fun _ => 0))), (q8, .inl (G.2.2.2 0, 640, .inl (fun _ => 0))), (q9, .inl (G.2.2.2 0, 64, .inl (fun _ => 0))), (q10, .inl (G.2.2.2 0, 2, .inl (fun _ => 0))), (q11, .inl (G.2.2.2 1, 2, .inl (fun _ => 0))), (q12, .inl (G.2.2.2 0, 24, .inl (fun _ => 0))), (q13, .inl (G.2.2.2 0, 30, .inl (fun _ => 0))), (q14, .inl (G.2.2.2 0, 6, .inl (fun _ => 0))), (q15, .inl (G.2.2.2 0, 6, .inl (fun _ => 0))), (q16, .inl (G.2.2.2 0, 20, .inl (fun _ => 0))), (q17, .inl (G.2.2.2 0, 36, .inl (fun _ => 0)))]) := by
  refine kC_of (by decide +kernel) rfl (Nat.le_of_ble_eq_true rfl) (fun A => ?_)
  show kJ G mX10_init 17 1180 A 0 [(0, .ref o)] [] [(o, .inr (10, [.int 0, .null, .int 0, .int 0, .int 0, .int 0, .int 0, .int 0, .int 0, .int 0, .int 0, .int 0, .int 0, .int 0, .null, .null, .int 0, .int 0, .int 0, .int 0, .int 0, .null, .null, .null, .null, .null, .int 0, .null, .null, .null, .int 0, .int 0, .null, .int 0, .null, .null, .null, .null, .null]))] 0 0 _
  refine k_aload dX10_init_0 (List.Mem.head _) ?_
  refine k_obj dX10_init_1 (dh_in 759 (by decide +kernel) rfl) kw_o1 kw_o2 (by decide) ?_
  refine k_aload dX10_init_4 (List.Mem.head _) ?_
  refine k_sipush (nI 240) dX10_init_5 (by decide) ?_
  refine k_newI (N := 240) (fun q1 => [(o, .inr (10, [.int 0, .null, .int 0, .int 0, .int 0, .int 0, .int 0, .int 0, .int 0, .int 0, .int 0, .int 0, .int 0, .int 0, .null, .null, .int 0, .int 0, .int 0, .int 0, .int 0, .null, .null, .null, .null, .null, .int 0, .null, .null, .null, .int 0, .int 0, .null, .int 0, .null, .null, .null, .null, .null])), (q1, .inl (G.2.2.2 0, 240, .inl (fun _ => 0)))]) dX10_init_8 kw_aI (by decide) (Nat.le_of_ble_eq_true rfl) (Nat.le_of_ble_eq_true rfl) (fun _ => rfl) (fun q1 => ?_)
  refine k_put (q0 := 0) (fs := [.int 0, .null, .int 0, .int 0, .int 0, .int 0, .int 0, .int 0, .int 0, .int 0, .int 0, .int 0, .int 0, .int 0, .null, .null, .int 0, .int 0, .int 0, .int 0, .int 0, .null, .null, .null, .null, .null, .int 0, .null, .null, .null, .int 0, .int 0, .null, .int 0, .null, .null, .null, .null, .null]) [(o, .inr (10, [.int 0, .ref q1, .int 0, .int 0, .int 0, .int 0, .int 0, .int 0, .int 0, .int 0, .int 0, .int 0, .int 0, .int 0, .null, .null, .int 0, .int 0, .int 0, .int 0, .int 0, .null, .null, .null, .null, .null, .int 0, .null, .null, .null, .int 0, .int 0, .null, .int 0, .null, .null, .null, .null, .null])), (q1, .inl (G.2.2.2 0, 240, .inl (fun _ => 0)))] dX10_init_10 kF_RX10_7 rfl rfl rfl (Nat.le_of_ble_eq_true rfl) rfl ?_
  refine k_aload dX10_init_13 (List.Mem.head _) ?_
  refine k_iconst (-1) dX10_init_14 (by decide) ?_
  refine k_put (q0 := 0) (fs := [.int 0, .ref q1, .int 0, .int 0, .int 0, .int 0, .int 0, .int 0, .int 0, .int 0, .int 0, .int 0, .int 0, .int 0, .null, .null, .int 0, .int 0, .int 0, .int 0, .int 0, .null, .null, .null, .null, .null, .int 0, .null, .null, .null, .int 0, .int 0, .null, .int 0, .null, .null, .null, .null, .null]) [(o, .inr (10, [.int 0, .ref q1, .int 0, .int 0, .int 0, .int 0, .int 0, .int (-1), .int 0, .int 0, .int 0, .int 0, .int 0, .int 0, .null, .null, .int 0, .int 0, .int 0, .int 0, .int 0, .null, .null, .null, .null, .null, .int 0, .null, .null, .null, .int 0, .int 0, .null, .int 0, .null, .null, .null, .null, .null])), (q1, .inl (G.2.2.2 0, 240, .inl (fun _ => 0)))] dX10_init_15 kF_RX10_13 rfl rfl rfl (Nat.le_of_ble_eq_true rfl) rfl ?_
  refine k_aload dX10_init_18 (List.Mem.head _) ?_
  refine k_bipush (nI 12) dX10_init_19 (by decide) ?_
  refine k_newI (N := 12) (fun q2 => [(o, .inr (10, [.int 0, .ref q1, .int 0, .int 0, .int 0, .int 0, .int 0, .int (-1), .int 0, .int 0, .int 0, .int 0, .int 0, .int 0, .null, .null, .int 0, .int 0, .int 0, .int 0, .int 0, .null, .null, .null, .null, .null, .int 0, .null, .null, .null, .int 0, .int 0, .null, .int 0, .null, .null, .null, .null, .null])), (q1, .inl (G.2.2.2 0, 240, .inl (fun _ => 0))), (q2, .inl (G.2.2.2 0, 12, .inl (fun _ => 0)))]) dX10_init_21 kw_aI (by decide) (Nat.le_of_ble_eq_true rfl) (Nat.le_of_ble_eq_true rfl) (fun _ => rfl) (fun q2 => ?_)
  refine k_put (q0 := 0) (fs := [.int 0, .ref q1, .int 0, .int 0, .int 0, .int 0, .int 0, .int (-1), .int 0, .int 0, .int 0, .int 0, .int 0, .int 0, .null, .null, .int 0, .int 0, .int 0, .int 0, .int 0, .null, .null, .null, .null, .null, .int 0, .null, .null, .null, .int 0, .int 0, .null, .int 0, .null, .null, .null, .null, .null]) [(o, .inr (10, [.int 0, .ref q1, .int 0, .int 0, .int 0, .int 0, .int 0, .int (-1), .int 0, .int 0, .int 0, .int 0, .int 0, .int 0, .ref q2, .null, .int 0, .int 0, .int 0, .int 0, .int 0, .null, .null, .null, .null, .null, .int 0, .null, .null, .null, .int 0, .int 0, .null, .int 0, .null, .null, .null, .null, .null])), (q1, .inl (G.2.2.2 0, 240, .inl (fun _ => 0))), (q2, .inl (G.2.2.2 0, 12, .inl (fun _ => 0)))] dX10_init_23 kF_RX10_17 rfl rfl rfl (Nat.le_of_ble_eq_true rfl) rfl ?_
  refine k_aload dX10_init_26 (List.Mem.head _) ?_
  refine k_bipush (nI 24) dX10_init_27 (by decide) ?_
  refine k_newI (N := 24) (fun q3 => [(o, .inr (10, [.int 0, .ref q1, .int 0, .int 0, .int 0, .int 0, .int 0, .int (-1), .int 0, .int 0, .int 0, .int 0, .int 0, .int 0, .ref q2, .null, .int 0, .int 0, .int 0, .int 0, .int 0, .null, .null, .null, .null, .null, .int 0, .null, .null, .null, .int 0, .int 0, .null, .int 0, .null, .null, .null, .null, .null])), (q1, .inl (G.2.2.2 0, 240, .inl (fun _ => 0))), (q2, .inl (G.2.2.2 0, 12, .inl (fun _ => 0))), (q3, .inl (G.2.2.2 0, 24, .inl (fun _ => 0)))]) dX10_init_29 kw_aI (by decide) (Nat.le_of_ble_eq_true rfl) (Nat.le_of_ble_eq_true rfl) (fun _ => rfl) (fun q3 => ?_)
  refine k_put (q0 := 0) (fs := [.int 0, .ref q1, .int 0, .int 0, .int 0, .int 0, .int 0, .int (-1), .int 0, .int 0, .int 0, .int 0, .int 0, .int 0, .ref q2, .null, .int 0, .int 0, .int 0, .int 0, .int 0, .null, .null, .null, .null, .null, .int 0, .null, .null, .null, .int 0, .int 0, .null, .int 0, .null, .null, .null, .null, .null]) [(o, .inr (10, [.int 0, .ref q1, .int 0, .int 0, .int 0, .int 0, .int 0, .int (-1), .int 0, .int 0, .int 0, .int 0, .int 0, .int 0, .ref q2, .ref q3, .int 0, .int 0, .int 0, .int 0, .int 0, .null, .null, .null, .null, .null, .int 0, .null, .null, .null, .int 0, .int 0, .null, .int 0, .null, .null, .null, .null, .null])), (q1, .inl (G.2.2.2 0, 240, .inl (fun _ => 0))), (q2, .inl (G.2.2.2 0, 12, .inl (fun _ => 0))), (q3, .inl (G.2.2.2 0, 24, .inl (fun _ => 0)))] dX10_init_31 kF_RX10_20 rfl rfl rfl (Nat.le_of_ble_eq_true rfl) rfl ?_
  refine k_aload dX10_init_34 (List.Mem.head _) ?_
  refine k_bipush (nI 12) dX10_init_35 (by decide) ?_
  refine k_newI (N := 12) (fun q4 => [(o, .inr (10, [.int 0, .ref q1, .int 0, .int 0, .int 0, .int 0, .int 0, .int (-1), .int 0, .int 0, .int 0, .int 0, .int 0, .int 0, .ref q2, .ref q3, .int 0, .int 0, .int 0, .int 0, .int 0, .null, .null, .null, .null, .null, .int 0, .null, .null, .null, .int 0, .int 0, .null, .int 0, .null, .null, .null, .null, .null])), (q1, .inl (G.2.2.2 0, 240, .inl (fun _ => 0))), (q2, .inl (G.2.2.2 0, 12, .inl (fun _ => 0))), (q3, .inl (G.2.2.2 0, 24, .inl (fun _ => 0))), (q4, .inl (G.2.2.2 0, 12, .inl (fun _ => 0)))]) dX10_init_37 kw_aI (by decide) (Nat.le_of_ble_eq_true rfl) (Nat.le_of_ble_eq_true rfl) (fun _ => rfl) (fun q4 => ?_)
  refine k_put (q0 := 0) (fs := [.int 0, .ref q1, .int 0, .int 0, .int 0, .int 0, .int 0, .int (-1), .int 0, .int 0, .int 0, .int 0, .int 0, .int 0, .ref q2, .ref q3, .int 0, .int 0, .int 0, .int 0, .int 0, .null, .null, .null, .null, .null, .int 0, .null, .null, .null, .int 0, .int 0, .null, .int 0, .null, .null, .null, .null, .null]) [(o, .inr (10, [.int 0, .ref q1, .int 0, .int 0, .int 0, .int 0, .int 0, .int (-1), .int 0, .int 0, .int 0, .int 0, .int 0, .int 0, .ref q2, .ref q3, .int 0, .int 0, .int 0, .int 0, .int 0, .ref q4, .null, .null, .null, .null, .int 0, .null, .null, .null, .int 0, .int 0, .null, .int 0, .null, .null, .null, .null, .null])), (q1, .inl (G.2.2.2 0, 240, .inl (fun _ => 0))), (q2, .inl (G.2.2.2 0, 12, .inl (fun _ => 0))), (q3, .inl (G.2.2.2 0, 24, .inl (fun _ => 0))), (q4, .inl (G.2.2.2 0, 12, .inl (fun _ => 0)))] dX10_init_39 kF_RX10_23 rfl rfl rfl (Nat.le_of_ble_eq_true rfl) rfl ?_
  refine k_aload dX10_init_42 (List.Mem.head _) ?_
  refine k_bipush (nI 24) dX10_init_43 (by decide) ?_
  refine k_newI (N := 24) (fun q5 => [(o, .inr (10, [.int 0, .ref q1, .int 0, .int 0, .int 0, .int 0, .int 0, .int (-1), .int 0, .int 0, .int 0, .int 0, .int 0, .int 0, .ref q2, .ref q3, .int 0, .int 0, .int 0, .int 0, .int 0, .ref q4, .null, .null, .null, .null, .int 0, .null, .null, .null, .int 0, .int 0, .null, .int 0, .null, .null, .null, .null, .null])), (q1, .inl (G.2.2.2 0, 240, .inl (fun _ => 0))), (q2, .inl (G.2.2.2 0, 12, .inl (fun _ => 0))), (q3, .inl (G.2.2.2 0, 24, .inl (fun _ => 0))), (q4, .inl (G.2.2.2 0, 12, .inl (fun _ => 0))), (q5, .inl (G.2.2.2 0, 24, .inl (fun _ => 0)))]) dX10_init_45 kw_aI (by decide) (Nat.le_of_ble_eq_true rfl) (Nat.le_of_ble_eq_true rfl) (fun _ => rfl) (fun q5 => ?_)
  refine k_put (q0 := 0) (fs := [.int 0, .ref q1, .int 0, .int 0, .int 0, .int 0, .int 0, .int (-1), .int 0, .int 0, .int 0, .int 0, .int 0, .int 0, .ref q2, .ref q3, .int 0, .int 0, .int 0, .int 0, .int 0, .ref q4, .null, .null, .null, .null, .int 0, .null, .null, .null, .int 0, .int 0, .null, .int 0, .null, .null, .null, .null, .null]) [(o, .inr (10, [.int 0, .ref q1, .int 0, .int 0, .int 0, .int 0, .int 0, .int (-1), .int 0, .int 0, .int 0, .int 0, .int 0, .int 0, .ref q2, .ref q3, .int 0, .int 0, .int 0, .int 0, .int 0, .ref q4, .ref q5, .null, .null, .null, .int 0, .null, .null, .null, .int 0, .int 0, .null, .int 0, .null, .null, .null, .null, .null])), (q1, .inl (G.2.2.2 0, 240, .inl (fun _ => 0))), (q2, .inl (G.2.2.2 0, 12, .inl (fun _ => 0))), (q3, .inl (G.2.2.2 0, 24, .inl (fun _ => 0))), (q4, .inl (G.2.2.2 0, 12, .inl (fun _ => 0))), (q5, .inl (G.2.2.2 0, 24, .inl (fun _ => 0)))] dX10_init_47 kF_RX10_26 rfl rfl rfl (Nat.le_of_ble_eq_true rfl) rfl ?_
  refine k_aload dX10_init_50 (List.Mem.head _) ?_
  refine k_bipush (nI 6) dX10_init_51 (by decide) ?_
  refine k_newI (N := 6) (fun q6 => [(o, .inr (10, [.int 0, .ref q1, .int 0, .int 0, .int 0, .int 0, .int 0, .int (-1), .int 0, .int 0, .int 0, .int 0, .int 0, .int 0, .ref q2, .ref q3, .int 0, .int 0, .int 0, .int 0, .int 0, .ref q4, .ref q5, .null, .null, .null, .int 0, .null, .null, .null, .int 0, .int 0, .null, .int 0, .null, .null, .null, .null, .null])), (q1, .inl (G.2.2.2 0, 240, .inl (fun _ => 0))), (q2, .inl (G.2.2.2 0, 12, .inl (fun _ => 0))), (q3, .inl (G.2.2.2 0, 24, .inl (fun _ => 0))), (q4, .inl (G.2.2.2 0, 12, .inl (fun _ => 0))), (q5, .inl (G.2.2.2 0, 24, .inl (fun _ => 0))), (q6, .inl (G.2.2.2 0, 6, .inl (fun _ => 0)))]) dX10_init_53 kw_aI (by decide) (Nat.le_of_ble_eq_true rfl) (Nat.le_of_ble_eq_true rfl) (fun _ => rfl) (fun q6 => ?_)
  refine k_put (q0 := 0) (fs := [.int 0, .ref q1, .int 0, .int 0, .int 0, .int 0, .int 0, .int (-1), .int 0, .int 0, .int 0, .int 0, .int 0, .int 0, .ref q2, .ref q3, .int 0, .int 0, .int 0, .int 0, .int 0, .ref q4, .ref q5, .null, .null, .null, .int 0, .null, .null, .null, .int 0, .int 0, .null, .int 0, .null, .null, .null, .null, .null]) [(o, .inr (10, [.int 0, .ref q1, .int 0, .int 0, .int 0, .int 0, .int 0, .int (-1), .int 0, .int 0, .int 0, .int 0, .int 0, .int 0, .ref q2, .ref q3, .int 0, .int 0, .int 0, .int 0, .int 0, .ref q4, .ref q5, .ref q6, .null, .null, .int 0, .null, .null, .null, .int 0, .int 0, .null, .int 0, .null, .null, .null, .null, .null])), (q1, .inl (G.2.2.2 0, 240, .inl (fun _ => 0))), (q2, .inl (G.2.2.2 0, 12, .inl (fun _ => 0))), (q3, .inl (G.2.2.2 0, 24, .inl (fun _ => 0))), (q4, .inl (G.2.2.2 0, 12, .inl (fun _ => 0))), (q5, .inl (G.2.2.2 0, 24, .inl (fun _ => 0))), (q6, .inl (G.2.2.2 0, 6, .inl (fun _ => 0)))] dX10_init_55 kF_RX10_29 rfl rfl rfl (Nat.le_of_ble_eq_true rfl) rfl ?_
  refine k_aload dX10_init_58 (List.Mem.head _) ?_
  refine k_bipush (nI 32) dX10_init_59 (by decide) ?_
  refine k_newI (N := 32) (fun q7 => [(o, .inr (10, [.int 0, .ref q1, .int 0, .int 0, .int 0, .int 0, .int 0, .int (-1), .int 0, .int 0, .int 0, .int 0, .int 0, .int 0, .ref q2, .ref q3, .int 0, .int 0, .int 0, .int 0, .int 0, .ref q4, .ref q5, .ref q6, .null, .null, .int 0, .null, .null, .null, .int 0, .int 0, .null, .int 0, .null, .null, .null, .null, .null])), (q1, .inl (G.2.2.2 0, 240, .inl (fun _ => 0))), (q2, .inl (G.2.2.2 0, 12, .inl (fun _ => 0))), (q3, .inl (G.2.2.2 0, 24, .inl (fun _ => 0))), (q4, .inl (G.2.2.2 0, 12, .inl (fun _ => 0))), (q5, .inl (G.2.2.2 0, 24, .inl (fun _ => 0))), (q6, .inl (G.2.2.2 0, 6, .inl (fun _ => 0))), (q7, .inl (G.2.2.2 0, 32, .inl (fun _ => 0)))]) dX10_init_61 kw_aI (by decide) (Nat.le_of_ble_eq_true rfl) (Nat.le_of_ble_eq_true rfl) (fun _ => rfl) (fun q7 => ?_)
  refine k_put (q0 := 0) (fs := [.int 0, .ref q1, .int 0, .int 0, .int 0, .int 0, .int 0, .int (-1), .int 0, .int 0, .int 0, .int 0, .int 0, .int 0, .ref q2, .ref q3, .int 0, .int 0, .int 0, .int 0, .int 0, .ref q4, .ref q5, .ref q6, .null, .null, .int 0, .null, .null, .null, .int 0, .int 0, .null, .int 0, .null, .null, .null, .null, .null]) [(o, .inr (10, [.int 0, .ref q1, .int 0, .int 0, .int 0, .int 0, .int 0, .int (-1), .int 0, .int 0, .int 0, .int 0, .int 0, .int 0, .ref q2, .ref q3, .int 0, .int 0, .int 0, .int 0, .int 0, .ref q4, .ref q5, .ref q6, .ref q7, .null, .int 0, .null, .null, .null, .int 0, .int 0, .null, .int 0, .null, .null, .null, .null, .null])), (q1, .inl (G.2.2.2 0, 240, .inl (fun _ => 0))), (q2, .inl (G.2.2.2 0, 12, .inl (fun _ => 0))), (q3, .inl (G.2.2.2 0, 24, .inl (fun _ => 0))), (q4, .inl (G.2.2.2 0, 12, .inl (fun _ => 0))), (q5, .inl (G.2.2.2 0, 24, .inl (fun _ => 0))), (q6, .inl (G.2.2.2 0, 6, .inl (fun _ => 0))), (q7, .inl (G.2.2.2 0, 32, .inl (fun _ => 0)))] dX10_init_63 kF_RX10_32 rfl rfl rfl (Nat.le_of_ble_eq_true rfl) rfl ?_
  refine k_aload dX10_init_66 (List.Mem.head _) ?_
  refine k_sipush (nI 640) dX10_init_67 (by decide) ?_
  refine k_newI (N := 640) (fun q8 => [(o, .inr (10, [.int 0, .ref q1, .int 0, .int 0, .int 0, .int 0, .int 0, .int (-1), .int 0, .int 0, .int 0, .int 0, .int 0, .int 0, .ref q2, .ref q3, .int 0, .int 0, .int 0, .int 0, .int 0, .ref q4, .ref q5, .ref q6, .ref q7, .null, .int 0, .null, .null, .null, .int 0, .int 0, .null, .int 0, .null, .null, .null, .null, .null])), (q1, .inl (G.2.2.2 0, 240, .inl (fun _ => 0))), (q2, .inl (G.2.2.2 0, 12, .inl (fun _ => 0))), (q3, .inl (G.2.2.2 0, 24, .inl (fun _ => 0))), (q4, .inl (G.2.2.2 0, 12, .inl (fun _ => 0))), (q5, .inl (G.2.2.2 0, 24, .inl (fun _ => 0))), (q6, .inl (G.2.2.2 0, 6, .inl (fun _ => 0))), (q7, .inl (G.2.2.2 0, 32, .inl (fun _ => 0))), (q8, .inl (G.2.2.2 0, 640, .inl (fun _ => 0)))]) dX10_init_70 kw_aI (by decide) (Nat.le_of_ble_eq_true rfl) (Nat.le_of_ble_eq_true rfl) (fun _ => rfl) (fun q8 => ?_)
  refine k_put (q0 := 0) (fs := [.int 0, .ref q1, .int 0, .int 0, .int 0, .int 0, .int 0, .int (-1), .int 0, .int 0, .int 0, .int 0, .int 0, .int 0, .ref q2, .ref q3, .int 0, .int 0, .int 0, .int 0, .int 0, .ref q4, .ref q5, .ref q6, .ref q7, .null, .int 0, .null, .null, .null, .int 0, .int 0, .null, .int 0, .null, .null, .null, .null, .null]) [(o, .inr (10, [.int 0, .ref q1, .int 0, .int 0, .int 0, .int 0, .int 0, .int (-1), .int 0, .int 0, .int 0, .int 0, .int 0, .int 0, .ref q2, .ref q3, .int 0, .int 0, .int 0, .int 0, .int 0, .ref q4, .ref q5, .ref q6, .ref q7, .ref q8, .int 0, .null, .null, .null, .int 0, .int 0, .null, .int 0, .null, .null, .null, .null, .null])), (q1, .inl (G.2.2.2 0, 240, .inl (fun _ => 0))), (q2, .inl (G.2.2.2 0, 12, .inl (fun _ => 0))), (q3, .inl (G.2.2.2 0, 24, .inl (fun _ => 0))), (q4, .inl (G.2.2.2 0, 12, .inl (fun _ => 0))), (q5, .inl (G.2.2.2 0, 24, .inl (fun _ => 0))), (q6, .inl (G.2.2.2 0, 6, .inl (fun _ => 0))), (q7, .inl (G.2.2.2 0, 32, .inl (fun _ => 0))), (q8, .inl (G.2.2.2 0, 640, .inl (fun _ => 0)))] dX10_init_72 kF_RX10_35 rfl rfl rfl (Nat.le_of_ble_eq_true rfl) rfl ?_
  refine k_aload dX10_init_75 (List.Mem.head _) ?_
  refine k_bipush (nI 64) dX10_init_76 (by decide) ?_
  refine k_newI (N := 64) (fun q9 => [(o, .inr (10, [.int 0, .ref q1, .int 0, .int 0, .int 0, .int 0, .int 0, .int (-1), .int 0, .int 0, .int 0, .int 0, .int 0, .int 0, .ref q2, .ref q3, .int 0, .int 0, .int 0, .int 0, .int 0, .ref q4, .ref q5, .ref q6, .ref q7, .ref q8, .int 0, .null, .null, .null, .int 0, .int 0, .null, .int 0, .null, .null, .null, .null, .null])), (q1, .inl (G.2.2.2 0, 240, .inl (fun _ => 0))), (q2, .inl (G.2.2.2 0, 12, .inl (fun _ => 0))), (q3, .inl (G.2.2.2 0, 24, .inl (fun _ => 0))), (q4, .inl (G.2.2.2 0, 12, .inl (fun _ => 0))), (q5, .inl (G.2.2.2 0, 24, .inl (fun _ => 0))), (q6, .inl (G.2.2.2 0, 6, .inl (fun _ => 0))), (q7, .inl (G.2.2.2 0, 32, .inl (fun _ => 0))), (q8, .inl (G.2.2.2 0, 640, .inl (fun _ => 0))), (q9, .inl (G.2.2.2 0, 64, .inl (fun _ => 0)))]) dX10_init_78 kw_aI (by decide) (Nat.le_of_ble_eq_true rfl) (Nat.le_of_ble_eq_true rfl) (fun _ => rfl) (fun q9 => ?_)
  refine k_put (q0 := 0) (fs := [.int 0, .ref q1, .int 0, .int 0, .int 0, .int 0, .int 0, .int (-1), .int 0, .int 0, .int 0, .int 0, .int 0, .int 0, .ref q2, .ref q3, .int 0, .int 0, .int 0, .int 0, .int 0, .ref q4, .ref q5, .ref q6, .ref q7, .ref q8, .int 0, .null, .null, .null, .int 0, .int 0, .null, .int 0, .null, .null, .null, .null, .null]) [(o, .inr (10, [.int 0, .ref q1, .int 0, .int 0, .int 0, .int 0, .int 0, .int (-1), .int 0, .int 0, .int 0, .int 0, .int 0, .int 0, .ref q2, .ref q3, .int 0, .int 0, .int 0, .int 0, .int 0, .ref q4, .ref q5, .ref q6, .ref q7, .ref q8, .int 0, .ref q9, .null, .null, .int 0, .int 0, .null, .int 0, .null, .null, .null, .null, .null])), (q1, .inl (G.2.2.2 0, 240, .inl (fun _ => 0))), (q2, .inl (G.2.2.2 0, 12, .inl (fun _ => 0))), (q3, .inl (G.2.2.2 0, 24, .inl (fun _ => 0))), (q4, .inl (G.2.2.2 0, 12, .inl (fun _ => 0))), (q5, .inl (G.2.2.2 0, 24, .inl (fun _ => 0))), (q6, .inl (G.2.2.2 0, 6, .inl (fun _ => 0))), (q7, .inl (G.2.2.2 0, 32, .inl (fun _ => 0))), (q8, .inl (G.2.2.2 0, 640, .inl (fun _ => 0))), (q9, .inl (G.2.2.2 0, 64, .inl (fun _ => 0)))] dX10_init_80 kF_RX10_38 rfl rfl rfl (Nat.le_of_ble_eq_true rfl) rfl ?_
  refine k_aload dX10_init_83 (List.Mem.head _) ?_
  refine k_iconst (nI 2) dX10_init_84 (by decide) ?_
  refine k_newI (N := 2) (fun q10 => [(o, .inr (10, [.int 0, .ref q1, .int 0, .int 0, .int 0, .int 0, .int 0, .int (-1), .int 0, .int 0, .int 0, .int 0, .int 0, .int 0, .ref q2, .ref q3, .int 0, .int 0, .int 0, .int 0, .int 0, .ref q4, .ref q5, .ref q6, .ref q7, .ref q8, .int 0, .ref q9, .null, .null, .int 0, .int 0, .null, .int 0, .null, .null, .null, .null, .null])), (q1, .inl (G.2.2.2 0, 240, .inl (fun _ => 0))), (q2, .inl (G.2.2.2 0, 12, .inl (fun _ => 0))), (q3, .inl (G.2.2.2 0, 24, .inl (fun _ => 0))), (q4, .inl (G.2.2.2 0, 12, .inl (fun _ => 0))), (q5, .inl (G.2.2.2 0, 24, .inl (fun _ => 0))), (q6, .inl (G.2.2.2 0, 6, .inl (fun _ => 0))), (q7, .inl (G.2.2.2 0, 32, .inl (fun _ => 0))), (q8, .inl (G.2.2.2 0, 640, .inl (fun _ => 0))), (q9, .inl (G.2.2.2 0, 64, .inl (fun _ => 0))), (q10, .inl (G.2.2.2 0, 2, .inl (fun _ => 0)))]) dX10_init_85 kw_aI (by decide) (Nat.le_of_ble_eq_true rfl) (Nat.le_of_ble_eq_true rfl) (fun _ => rfl) (fun q10 => ?_)
  refine k_put (q0 := 0) (fs := [.int 0, .ref q1, .int 0, .int 0, .int 0, .int 0, .int 0, .int (-1), .int 0, .int 0, .int 0, .int 0, .int 0, .int 0, .ref q2, .ref q3, .int 0, .int 0, .int 0, .int 0, .int 0, .ref q4, .ref q5, .ref q6, .ref q7, .ref q8, .int 0, .ref q9, .null, .null, .int 0, .int 0, .null, .int 0, .null, .null, .null, .null, .null]) [(o, .inr (10, [.int 0, .ref q1, .int 0, .int 0, .int 0, .int 0, .int 0, .int (-1), .int 0, .int 0, .int 0, .int 0, .int 0, .int 0, .ref q2, .ref q3, .int 0, .int 0, .int 0, .int 0, .int 0, .ref q4, .ref q5, .ref q6, .ref q7, .ref q8, .int 0, .ref q9, .ref q10, .null, .int 0, .int 0, .null, .int 0, .null, .null, .null, .null, .null])), (q1, .inl (G.2.2.2 0, 240, .inl (fun _ => 0))), (q2, .inl (G.2.2.2 0, 12, .inl (fun _ => 0))), (q3, .inl (G.2.2.2 0, 24, .inl (fun _ => 0))), (q4, .inl (G.2.2.2 0, 12, .inl (fun _ => 0))), (q5, .inl (G.2.2.2 0, 24, .inl (fun _ => 0))), (q6, .inl (G.2.2.2 0, 6, .inl (fun _ => 0))), (q7, .inl (G.2.2.2 0, 32, .inl (fun _ => 0))), (q8, .inl (G.2.2.2 0, 640, .inl (fun _ => 0))), (q9, .inl (G.2.2.2 0, 64, .inl (fun _ => 0))), (q10, .inl (G.2.2.2 0, 2, .inl (fun _ => 0)))] dX10_init_87 kF_RX10_41 rfl rfl rfl (Nat.le_of_ble_eq_true rfl) rfl ?_
  refine k_aload dX10_init_90 (List.Mem.head _) ?_
  refine k_iconst (nI 2) dX10_init_91 (by decide) ?_
  refine k_newB (N := 2) (fun q11 => [(o, .inr (10, [.int 0, .ref q1, .int 0, .int 0, .int 0, .int 0, .int 0, .int (-1), .int 0, .int 0, .int 0, .int 0, .int 0, .int 0, .ref q2, .ref q3, .int 0, .int 0, .int 0, .int 0, .int 0, .ref q4, .ref q5, .ref q6, .ref q7, .ref q8, .int 0, .ref q9, .ref q10, .null, .int 0, .int 0, .null, .int 0, .null, .null, .null, .null, .null])), (q1, .inl (G.2.2.2 0, 240, .inl (fun _ => 0))), (q2, .inl (G.2.2.2 0, 12, .inl (fun _ => 0))), (q3, .inl (G.2.2.2 0, 24, .inl (fun _ => 0))), (q4, .inl (G.2.2.2 0, 12, .inl (fun _ => 0))), (q5, .inl (G.2.2.2 0, 24, .inl (fun _ => 0))), (q6, .inl (G.2.2.2 0, 6, .inl (fun _ => 0))), (q7, .inl (G.2.2.2 0, 32, .inl (fun _ => 0))), (q8, .inl (G.2.2.2 0, 640, .inl (fun _ => 0))), (q9, .inl (G.2.2.2 0, 64, .inl (fun _ => 0))), (q10, .inl (G.2.2.2 0, 2, .inl (fun _ => 0))), (q11, .inl (G.2.2.2 1, 2, .inl (fun _ => 0)))]) dX10_init_92 kw_aB (by decide) (Nat.le_of_ble_eq_true rfl) (Nat.le_of_ble_eq_true rfl) (fun _ => rfl) (fun q11 => ?_)
  refine k_put (q0 := 0) (fs := [.int 0, .ref q1, .int 0, .int 0, .int 0, .int 0, .int 0, .int (-1), .int 0, .int 0, .int 0, .int 0, .int 0, .int 0, .ref q2, .ref q3, .int 0, .int 0, .int 0, .int 0, .int 0, .ref q4, .ref q5, .ref q6, .ref q7, .ref q8, .int 0, .ref q9, .ref q10, .null, .int 0, .int 0, .null, .int 0, .null, .null, .null, .null, .null]) [(o, .inr (10, [.int 0, .ref q1, .int 0, .int 0, .int 0, .int 0, .int 0, .int (-1), .int 0, .int 0, .int 0, .int 0, .int 0, .int 0, .ref q2, .ref q3, .int 0, .int 0, .int 0, .int 0, .int 0, .ref q4, .ref q5, .ref q6, .ref q7, .ref q8, .int 0, .ref q9, .ref q10, .ref q11, .int 0, .int 0, .null, .int 0, .null, .null, .null, .null, .null])), (q1, .inl (G.2.2.2 0, 240, .inl (fun _ => 0))), (q2, .inl (G.2.2.2 0, 12, .inl (fun _ => 0))), (q3, .inl (G.2.2.2 0, 24, .inl (fun _ => 0))), (q4, .inl (G.2.2.2 0, 12, .inl (fun _ => 0))), (q5, .inl (G.2.2.2 0, 24, .inl (fun _ => 0))), (q6, .inl (G.2.2.2 0, 6, .inl (fun _ => 0))), (q7, .inl (G.2.2.2 0, 32, .inl (fun _ => 0))), (q8, .inl (G.2.2.2 0, 640, .inl (fun _ => 0))), (q9, .inl (G.2.2.2 0, 64, .inl (fun _ => 0))), (q10, .inl (G.2.2.2 0, 2, .inl (fun _ => 0))), (q11, .inl (G.2.2.2 1, 2, .inl (fun _ => 0)))] dX10_init_94 kF_RX10_44 rfl rfl rfl (Nat.le_of_ble_eq_true rfl) rfl ?_
  refine k_aload dX10_init_97 (List.Mem.head _) ?_
  refine k_bipush (nI 24) dX10_init_98 (by decide) ?_
  refine k_newI (N := 24) (fun q12 => [(o, .inr (10, [.int 0, .ref q1, .int 0, .int 0, .int 0, .int 0, .int 0, .int (-1), .int 0, .int 0, .int 0, .int 0, .int 0, .int 0, .ref q2, .ref q3, .int 0, .int 0, .int 0, .int 0, .int 0, .ref q4, .ref q5, .ref q6, .ref q7, .ref q8, .int 0, .ref q9, .ref q10, .ref q11, .int 0, .int 0, .null, .int 0, .null, .null, .null, .null, .null])), (q1, .inl (G.2.2.2 0, 240, .inl (fun _ => 0))), (q2, .inl (G.2.2.2 0, 12, .inl (fun _ => 0))), (q3, .inl (G.2.2.2 0, 24, .inl (fun _ => 0))), (q4, .inl (G.2.2.2 0, 12, .inl (fun _ => 0))), (q5, .inl (G.2.2.2 0, 24, .inl (fun _ => 0))), (q6, .inl (G.2.2.2 0, 6, .inl (fun _ => 0))), (q7, .inl (G.2.2.2 0, 32, .inl (fun _ => 0))), (q8, .inl (G.2.2.2 0, 640, .inl (fun _ => 0))), (q9, .inl (G.2.2.2 0, 64, .inl (fun _ => 0))), (q10, .inl (G.2.2.2 0, 2, .inl (fun _ => 0))), (q11, .inl (G.2.2.2 1, 2, .inl (fun _ => 0))), (q12, .inl (G.2.2.2 0, 24, .inl (fun _ => 0)))]) dX10_init_100 kw_aI (by decide) (Nat.le_of_ble_eq_true rfl) (Nat.le_of_ble_eq_true rfl) (fun _ => rfl) (fun q12 => ?_)
  refine k_put (q0 := 0) (fs := [.int 0, .ref q1, .int 0, .int 0, .int 0, .int 0, .int 0, .int (-1), .int 0, .int 0, .int 0, .int 0, .int 0, .int 0, .ref q2, .ref q3, .int 0, .int 0, .int 0, .int 0, .int 0, .ref q4, .ref q5, .ref q6, .ref q7, .ref q8, .int 0, .ref q9, .ref q10, .ref q11, .int 0, .int 0, .null, .int 0, .null, .null, .null, .null, .null]) [(o, .inr (10, [.int 0, .ref q1, .int 0, .int 0, .int 0, .int 0, .int 0, .int (-1), .int 0, .int 0, .int 0, .int 0, .int 0, .int 0, .ref q2, .ref q3, .int 0, .int 0, .int 0, .int 0, .int 0, .ref q4, .ref q5, .ref q6, .ref q7, .ref q8, .int 0, .ref q9, .ref q10, .ref q11, .int 0, .int 0, .ref q12, .int 0, .null, .null, .null, .null, .null])), (q1, .inl (G.2.2.2 0, 240, .inl (fun _ => 0))), (q2, .inl (G.2.2.2 0, 12, .inl (fun _ => 0))), (q3, .inl (G.2.2.2 0, 24, .inl (fun _ => 0))), (q4, .inl (G.2.2.2 0, 12, .inl (fun _ => 0))), (q5, .inl (G.2.2.2 0, 24, .inl (fun _ => 0))), (q6, .inl (G.2.2.2 0, 6, .inl (fun _ => 0))), (q7, .inl (G.2.2.2 0, 32, .inl (fun _ => 0))), (q8, .inl (G.2.2.2 0, 640, .inl (fun _ => 0))), (q9, .inl (G.2.2.2 0, 64, .inl (fun _ => 0))), (q10, .inl (G.2.2.2 0, 2, .inl (fun _ => 0))), (q11, .inl (G.2.2.2 1, 2, .inl (fun _ => 0))), (q12, .inl (G.2.2.2 0, 24, .inl (fun _ => 0)))] dX10_init_102 kF_RX10_48 rfl rfl rfl (Nat.le_of_ble_eq_true rfl) rfl ?_
  refine k_aload dX10_init_105 (List.Mem.head _) ?_
  refine k_bipush (nI 30) dX10_init_106 (by decide) ?_
  refine k_newI (N := 30) (fun q13 => [(o, .inr (10, [.int 0, .ref q1, .int 0, .int 0, .int 0, .int 0, .int 0, .int (-1), .int 0, .int 0, .int 0, .int 0, .int 0, .int 0, .ref q2, .ref q3, .int 0, .int 0, .int 0, .int 0, .int 0, .ref q4, .ref q5, .ref q6, .ref q7, .ref q8, .int 0, .ref q9, .ref q10, .ref q11, .int 0, .int 0, .ref q12, .int 0, .null, .null, .null, .null, .null])), (q1, .inl (G.2.2.2 0, 240, .inl (fun _ => 0))), (q2, .inl (G.2.2.2 0, 12, .inl (fun _ => 0))), (q3, .inl (G.2.2.2 0, 24, .inl (fun _ => 0))), (q4, .inl (G.2.2.2 0, 12, .inl (fun _ => 0))), (q5, .inl (G.2.2.2 0, 24, .inl (fun _ => 0))), (q6, .inl (G.2.2.2 0, 6, .inl (fun _ => 0))), (q7, .inl (G.2.2.2 0, 32, .inl (fun _ => 0))), (q8, .inl (G.2.2.2 0, 640, .inl (fun _ => 0))), (q9, .inl (G.2.2.2 0, 64, .inl (fun _ => 0))), (q10, .inl (G.2.2.2 0, 2, .inl (fun _ => 0))), (q11, .inl (G.2.2.2 1, 2, .inl (fun _ => 0))), (q12, .inl (G.2.2.2 0, 24, .inl (fun _ => 0))), (q13, .inl (G.2.2.2 0, 30, .inl (fun _ => 0)))]) dX10_init_108 kw_aI (by decide) (Nat.le_of_ble_eq_true rfl) (Nat.le_of_ble_eq_true rfl) (fun _ => rfl) (fun q13 => ?_)
  refine k_put (q0 := 0) (fs := [.int 0, .ref q1, .int 0, .int 0, .int 0, .int 0, .int 0, .int (-1), .int 0, .int 0, .int 0, .int 0, .int 0, .int 0, .ref q2, .ref q3, .int 0, .int 0, .int 0, .int 0, .int 0, .ref q4, .ref q5, .ref q6, .ref q7, .ref q8, .int 0, .ref q9, .ref q10, .ref q11, .int 0, .int 0, .ref q12, .int 0, .null, .null, .null, .null, .null]) [(o, .inr (10, [.int 0, .ref q1, .int 0, .int 0, .int 0, .int 0, .int 0, .int (-1), .int 0, .int 0, .int 0, .int 0, .int 0, .int 0, .ref q2, .ref q3, .int 0, .int 0, .int 0, .int 0, .int 0, .ref q4, .ref q5, .ref q6, .ref q7, .ref q8, .int 0, .ref q9, .ref q10, .ref q11, .int 0, .int 0, .ref q12, .int 0, .ref q13, .null, .null, .null, .null])), (q1, .inl (G.2.2.2 0, 240, .inl (fun _ => 0))), (q2, .inl (G.2.2.2 0, 12, .inl (fun _ => 0))), (q3, .inl (G.2.2.2 0, 24, .inl (fun _ => 0))), (q4, .inl (G.2.2.2 0, 12, .inl (fun _ => 0))), (q5, .inl (G.2.2.2 0, 24, .inl (fun _ => 0))), (q6, .inl (G.2.2.2 0, 6, .inl (fun _ => 0))), (q7, .inl (G.2.2.2 0, 32, .inl (fun _ => 0))), (q8, .inl (G.2.2.2 0, 640, .inl (fun _ => 0))), (q9, .inl (G.2.2.2 0, 64, .inl (fun _ => 0))), (q10, .inl (G.2.2.2 0, 2, .inl (fun _ => 0))), (q11, .inl (G.2.2.2 1, 2, .inl (fun _ => 0))), (q12, .inl (G.2.2.2 0, 24, .inl (fun _ => 0))), (q13, .inl (G.2.2.2 0, 30, .inl (fun _ => 0)))] dX10_init_110 kF_RX10_51 rfl rfl rfl (Nat.le_of_ble_eq_true rfl) rfl ?_
  refine k_aload dX10_init_113 (List.Mem.head _) ?_
  refine k_bipush (nI 6) dX10_init_114 (by decide) ?_
  refine k_newI (N := 6) (fun q14 => [(o, .inr (10, [.int 0, .ref q1, .int 0, .int 0, .int 0, .int 0, .int 0, .int (-1), .int 0, .int 0, .int 0, .int 0, .int 0, .int 0, .ref q2, .ref q3, .int 0, .int 0, .int 0, .int 0, .int 0, .ref q4, .ref q5, .ref q6, .ref q7, .ref q8, .int 0, .ref q9, .ref q10, .ref q11, .int 0, .int 0, .ref q12, .int 0, .ref q13, .null, .null, .null, .null])), (q1, .inl (G.2.2.2 0, 240, .inl (fun _ => 0))), (q2, .inl (G.2.2.2 0, 12, .inl (fun _ => 0))), (q3, .inl (G.2.2.2 0, 24, .inl (fun _ => 0))), (q4, .inl (G.2.2.2 0, 12, .inl (fun _ => 0))), (q5, .inl (G.2.2.2 0, 24, .inl (fun _ => 0))), (q6, .inl (G.2.2.2 0, 6, .inl (fun _ => 0))), (q7, .inl (G.2.2.2 0, 32, .inl (fun _ => 0))), (q8, .inl (G.2.2.2 0, 640, .inl (fun _ => 0))), (q9, .inl (G.2.2.2 0, 64, .inl (fun _ => 0))), (q10, .inl (G.2.2.2 0, 2, .inl (fun _ => 0))), (q11, .inl (G.2.2.2 1, 2, .inl (fun _ => 0))), (q12, .inl (G.2.2.2 0, 24, .inl (fun _ => 0))), (q13, .inl (G.2.2.2 0, 30, .inl (fun _ => 0))), (q14, .inl (G.2.2.2 0, 6, .inl (fun _ => 0)))]) dX10_init_116 kw_aI (by decide) (Nat.le_of_ble_eq_true rfl) (Nat.le_of_ble_eq_true rfl) (fun _ => rfl) (fun q14 => ?_)
  refine k_put (q0 := 0) (fs := [.int 0, .ref q1, .int 0, .int 0, .int 0, .int 0, .int 0, .int (-1), .int 0, .int 0, .int 0, .int 0, .int 0, .int 0, .ref q2, .ref q3, .int 0, .int 0, .int 0, .int 0, .int 0, .ref q4, .ref q5, .ref q6, .ref q7, .ref q8, .int 0, .ref q9, .ref q10, .ref q11, .int 0, .int 0, .ref q12, .int 0, .ref q13, .null, .null, .null, .null]) [(o, .inr (10, [.int 0, .ref q1, .int 0, .int 0, .int 0, .int 0, .int 0, .int (-1), .int 0, .int 0, .int 0, .int 0, .int 0, .int 0, .ref q2, .ref q3, .int 0, .int 0, .int 0, .int 0, .int 0, .ref q4, .ref q5, .ref q6, .ref q7, .ref q8, .int 0, .ref q9, .ref q10, .ref q11, .int 0, .int 0, .ref q12, .int 0, .ref q13, .ref q14, .null, .null, .null])), (q1, .inl (G.2.2.2 0, 240, .inl (fun _ => 0))), (q2, .inl (G.2.2.2 0, 12, .inl (fun _ => 0))), (q3, .inl (G.2.2.2 0, 24, .inl (fun _ => 0))), (q4, .inl (G.2.2.2 0, 12, .inl (fun _ => 0))), (q5, .inl (G.2.2.2 0, 24, .inl (fun _ => 0))), (q6, .inl (G.2.2.2 0, 6, .inl (fun _ => 0))), (q7, .inl (G.2.2.2 0, 32, .inl (fun _ => 0))), (q8, .inl (G.2.2.2 0, 640, .inl (fun _ => 0))), (q9, .inl (G.2.2.2 0, 64, .inl (fun _ => 0))), (q10, .inl (G.2.2.2 0, 2, .inl (fun _ => 0))), (q11, .inl (G.2.2.2 1, 2, .inl (fun _ => 0))), (q12, .inl (G.2.2.2 0, 24, .inl (fun _ => 0))), (q13, .inl (G.2.2.2 0, 30, .inl (fun _ => 0))), (q14, .inl (G.2.2.2 0, 6, .inl (fun _ => 0)))] dX10_init_118 kF_RX10_54 rfl rfl rfl (Nat.le_of_ble_eq_true rfl) rfl ?_
  refine k_aload dX10_init_121 (List.Mem.head _) ?_
  refine k_bipush (nI 6) dX10_init_122 (by decide) ?_
  refine k_newI (N := 6) (fun q15 => [(o, .inr (10, [.int 0, .ref q1, .int 0, .int 0, .int 0, .int 0, .int 0, .int (-1), .int 0, .int 0, .int 0, .int 0, .int 0, .int 0, .ref q2, .ref q3, .int 0, .int 0, .int 0, .int 0, .int 0, .ref q4, .ref q5, .ref q6, .ref q7, .ref q8, .int 0, .ref q9, .ref q10, .ref q11, .int 0, .int 0, .ref q12, .int 0, .ref q13, .ref q14, .null, .null, .null])), (q1, .inl (G.2.2.2 0, 240, .inl (fun _ => 0))), (q2, .inl (G.2.2.2 0, 12, .inl (fun _ => 0))), (q3, .inl (G.2.2.2 0, 24, .inl (fun _ => 0))), (q4, .inl (G.2.2.2 0, 12, .inl (fun _ => 0))), (q5, .inl (G.2.2.2 0, 24, .inl (fun _ => 0))), (q6, .inl (G.2.2.2 0, 6, .inl (fun _ => 0))), (q7, .inl (G.2.2.2 0, 32, .inl (fun _ => 0))), (q8, .inl (G.2.2.2 0, 640, .inl (fun _ => 0))), (q9, .inl (G.2.2.2 0, 64, .inl (fun _ => 0))), (q10, .inl (G.2.2.2 0, 2, .inl (fun _ => 0))), (q11, .inl (G.2.2.2 1, 2, .inl (fun _ => 0))), (q12, .inl (G.2.2.2 0, 24, .inl (fun _ => 0))), (q13, .inl (G.2.2.2 0, 30, .inl (fun _ => 0))), (q14, .inl (G.2.2.2 0, 6, .inl (fun _ => 0))), (q15, .inl (G.2.2.2 0, 6, .inl (fun _ => 0)))]) dX10_init_124 kw_aI (by decide) (Nat.le_of_ble_eq_true rfl) (Nat.le_of_ble_eq_true rfl) (fun _ => rfl) (fun q15 => ?_)
  refine k_put (q0 := 0) (fs := [.int 0, .ref q1, .int 0, .int 0, .int 0, .int 0, .int 0, .int (-1), .int 0, .int 0, .int 0, .int 0, .int 0, .int 0, .ref q2, .ref q3, .int 0, .int 0, .int 0, .int 0, .int 0, .ref q4, .ref q5, .ref q6, .ref q7, .ref q8, .int 0, .ref q9, .ref q10, .ref q11, .int 0, .int 0, .ref q12, .int 0, .ref q13, .ref q14, .null, .null, .null]) [(o, .inr (10, [.int 0, .ref q1, .int 0, .int 0, .int 0, .int 0, .int 0, .int (-1), .int 0, .int 0, .int 0, .int 0, .int 0, .int 0, .ref q2, .ref q3, .int 0, .int 0, .int 0, .int 0, .int 0, .ref q4, .ref q5, .ref q6, .ref q7, .ref q8, .int 0, .ref q9, .ref q10, .ref q11, .int 0, .int 0, .ref q12, .int 0, .ref q13, .ref q14, .ref q15, .null, .null])), (q1, .inl (G.2.2.2 0, 240, .inl (fun _ => 0))), (q2, .inl (G.2.2.2 0, 12, .inl (fun _ => 0))), (q3, .inl (G.2.2.2 0, 24, .inl (fun _ => 0))), (q4, .inl (G.2.2.2 0, 12, .inl (fun _ => 0))), (q5, .inl (G.2.2.2 0, 24, .inl (fun _ => 0))), (q6, .inl (G.2.2.2 0, 6, .inl (fun _ => 0))), (q7, .inl (G.2.2.2 0, 32, .inl (fun _ => 0))), (q8, .inl (G.2.2.2 0, 640, .inl (fun _ => 0))), (q9, .inl (G.2.2.2 0, 64, .inl (fun _ => 0))), (q10, .inl (G.2.2.2 0, 2, .inl (fun _ => 0))), (q11, .inl (G.2.2.2 1, 2, .inl (fun _ => 0))), (q12, .inl (G.2.2.2 0, 24, .inl (fun _ => 0))), (q13, .inl (G.2.2.2 0, 30, .inl (fun _ => 0))), (q14, .inl (G.2.2.2 0, 6, .inl (fun _ => 0))), (q15, .inl (G.2.2.2 0, 6, .inl (fun _ => 0)))] dX10_init_126 kF_RX10_57 rfl rfl rfl (Nat.le_of_ble_eq_true rfl) rfl ?_
  refine k_aload dX10_init_129 (List.Mem.head _) ?_
  refine k_bipush (nI 20) dX10_init_130 (by decide) ?_
  refine k_newI (N := 20) (fun q16 => [(o, .inr (10, [.int 0, .ref q1, .int 0, .int 0, .int 0, .int 0, .int 0, .int (-1), .int 0, .int 0, .int 0, .int 0, .int 0, .int 0, .ref q2, .ref q3, .int 0, .int 0, .int 0, .int 0, .int 0, .ref q4, .ref q5, .ref q6, .ref q7, .ref q8, .int 0, .ref q9, .ref q10, .ref q11, .int 0, .int 0, .ref q12, .int 0, .ref q13, .ref q14, .ref q15, .null, .null])), (q1, .inl (G.2.2.2 0, 240, .inl (fun _ => 0))), (q2, .inl (G.2.2.2 0, 12, .inl (fun _ => 0))), (q3, .inl (G.2.2.2 0, 24, .inl (fun _ => 0))), (q4, .inl (G.2.2.2 0, 12, .inl (fun _ => 0))), (q5, .inl (G.2.2.2 0, 24, .inl (fun _ => 0))), (q6, .inl (G.2.2.2 0, 6, .inl (fun _ => 0))), (q7, .inl (G.2.2.2 0, 32, .inl (fun _ => 0))), (q8, .inl (G.2.2.2 0, 640, .inl (fun _ => 0))), (q9, .inl (G.2.2.2 0, 64, .inl (fun _ => 0))), (q10, .inl (G.2.2.2 0, 2, .inl (fun _ => 0))), (q11, .inl (G.2.2.2 1, 2, .inl (fun _ => 0))), (q12, .inl (G.2.2.2 0, 24, .inl (fun _ => 0))), (q13, .inl (G.2.2.2 0, 30, .inl (fun _ => 0))), (q14, .inl (G.2.2.2 0, 6, .inl (fun _ => 0))), (q15, .inl (G.2.2.2 0, 6, .inl (fun _ => 0))), (q16, .inl (G.2.2.2 0, 20, .inl (fun _ => 0)))]) dX10_init_132 kw_aI (by decide) (Nat.le_of_ble_eq_true rfl) (Nat.le_of_ble_eq_true rfl) (fun _ => rfl) (fun q16 => ?_)
  refine k_put (q0 := 0) (fs := [.int 0, .ref q1, .int 0, .int 0, .int 0, .int 0, .int 0, .int (-1), .int 0, .int 0, .int 0, .int 0, .int 0, .int 0, .ref q2, .ref q3, .int 0, .int 0, .int 0, .int 0, .int 0, .ref q4, .ref q5, .ref q6, .ref q7, .ref q8, .int 0, .ref q9, .ref q10, .ref q11, .int 0, .int 0, .ref q12, .int 0, .ref q13, .ref q14, .ref q15, .null, .null]) [(o, .inr (10, [.int 0, .ref q1, .int 0, .int 0, .int 0, .int 0, .int 0, .int (-1), .int 0, .int 0, .int 0, .int 0, .int 0, .int 0, .ref q2, .ref q3, .int 0, .int 0, .int 0, .int 0, .int 0, .ref q4, .ref q5, .ref q6, .ref q7, .ref q8, .int 0, .ref q9, .ref q10, .ref q11, .int 0, .int 0, .ref q12, .int 0, .ref q13, .ref q14, .ref q15, .ref q16, .null])), (q1, .inl (G.2.2.2 0, 240, .inl (fun _ => 0))), (q2, .inl (G.2.2.2 0, 12, .inl (fun _ => 0))), (q3, .inl (G.2.2.2 0, 24, .inl (fun _ => 0))), (q4, .inl (G.2.2.2 0, 12, .inl (fun _ => 0))), (q5, .inl (G.2.2.2 0, 24, .inl (fun _ => 0))), (q6, .inl (G.2.2.2 0, 6, .inl (fun _ => 0))), (q7, .inl (G.2.2.2 0, 32, .inl (fun _ => 0))), (q8, .inl (G.2.2.2 0, 640, .inl (fun _ => 0))), (q9, .inl (G.2.2.2 0, 64, .inl (fun _ => 0))), (q10, .inl (G.2.2.2 0, 2, .inl (fun _ => 0))), (q11, .inl (G.2.2.2 1, 2, .inl (fun _ => 0))), (q12, .inl (G.2.2.2 0, 24, .inl (fun _ => 0))), (q13, .inl (G.2.2.2 0, 30, .inl (fun _ => 0))), (q14, .inl (G.2.2.2 0, 6, .inl (fun _ => 0))), (q15, .inl (G.2.2.2 0, 6, .inl (fun _ => 0))), (q16, .inl (G.2.2.2 0, 20, .inl (fun _ => 0)))] dX10_init_134 kF_RX10_60 rfl rfl rfl (Nat.le_of_ble_eq_true rfl) rfl ?_
  refine k_aload dX10_init_137 (List.Mem.head _) ?_
  refine k_bipush (nI 36) dX10_init_138 (by decide) ?_
  refine k_newI (N := 36) (fun q17 => [(o, .inr (10, [.int 0, .ref q1, .int 0, .int 0, .int 0, .int 0, .int 0, .int (-1), .int 0, .int 0, .int 0, .int 0, .int 0, .int 0, .ref q2, .ref q3, .int 0, .int 0, .int 0, .int 0, .int 0, .ref q4, .ref q5, .ref q6, .ref q7, .ref q8, .int 0, .ref q9, .ref q10, .ref q11, .int 0, .int 0, .ref q12, .int 0, .ref q13, .ref q14, .ref q15, .ref q16, .null])), (q1, .inl (G.2.2.2 0, 240, .inl (fun _ => 0))), (q2, .inl (G.2.2.2 0, 12, .inl (fun _ => 0))), (q3, .inl (G.2.2.2 0, 24, .inl (fun _ => 0))), (q4, .inl (G.2.2.2 0, 12, .inl (fun _ => 0))), (q5, .inl (G.2.2.2 0, 24, .inl (fun _ => 0))), (q6, .inl (G.2.2.2 0, 6, .inl (fun _ => 0))), (q7, .inl (G.2.2.2 0, 32, .inl (fun _ => 0))), (q8, .inl (G.2.2.2 0, 640, .inl (fun _ => 0))), (q9, .inl (G.2.2.2 0, 64, .inl (fun _ => 0))), (q10, .inl (G.2.2.2 0, 2, .inl (fun _ => 0))), (q11, .inl (G.2.2.2 1, 2, .inl (fun _ => 0))), (q12, .inl (G.2.2.2 0, 24, .inl (fun _ => 0))), (q13, .inl (G.2.2.2 0, 30, .inl (fun _ => 0))), (q14, .inl (G.2.2.2 0, 6, .inl (fun _ => 0))), (q15, .inl (G.2.2.2 0, 6, .inl (fun _ => 0))), (q16, .inl (G.2.2.2 0, 20, .inl (fun _ => 0))), (q17, .inl (G.2.2.2 0, 36, .inl (fun _ => 0)))]) dX10_init_140 kw_aI (by decide) (Nat.le_of_ble_eq_true rfl) (Nat.le_of_ble_eq_true rfl) (fun _ => rfl) (fun q17 => ?_)
  refine k_put (q0 := 0) (fs := [.int 0, .ref q1, .int 0, .int 0, .int 0, .int 0, .int 0, .int (-1), .int 0, .int 0, .int 0, .int 0, .int 0, .int 0, .ref q2, .ref q3, .int 0, .int 0, .int 0, .int 0, .int 0, .ref q4, .ref q5, .ref q6, .ref q7, .ref q8, .int 0, .ref q9, .ref q10, .ref q11, .int 0, .int 0, .ref q12, .int 0, .ref q13, .ref q14, .ref q15, .ref q16, .null]) [(o, .inr (10, [.int 0, .ref q1, .int 0, .int 0, .int 0, .int 0, .int 0, .int (-1), .int 0, .int 0, .int 0, .int 0, .int 0, .int 0, .ref q2, .ref q3, .int 0, .int 0, .int 0, .int 0, .int 0, .ref q4, .ref q5, .ref q6, .ref q7, .ref q8, .int 0, .ref q9, .ref q10, .ref q11, .int 0, .int 0, .ref q12, .int 0, .ref q13, .ref q14, .ref q15, .ref q16, .ref q17])), (q1, .inl (G.2.2.2 0, 240, .inl (fun _ => 0))), (q2, .inl (G.2.2.2 0, 12, .inl (fun _ => 0))), (q3, .inl (G.2.2.2 0, 24, .inl (fun _ => 0))), (q4, .inl (G.2.2.2 0, 12, .inl (fun _ => 0))), (q5, .inl (G.2.2.2 0, 24, .inl (fun _ => 0))), (q6, .inl (G.2.2.2 0, 6, .inl (fun _ => 0))), (q7, .inl (G.2.2.2 0, 32, .inl (fun _ => 0))), (q8, .inl (G.2.2.2 0, 640, .inl (fun _ => 0))), (q9, .inl (G.2.2.2 0, 64, .inl (fun _ => 0))), (q10, .inl (G.2.2.2 0, 2, .inl (fun _ => 0))), (q11, .inl (G.2.2.2 1, 2, .inl (fun _ => 0))), (q12, .inl (G.2.2.2 0, 24, .inl (fun _ => 0))), (q13, .inl (G.2.2.2 0, 30, .inl (fun _ => 0))), (q14, .inl (G.2.2.2 0, 6, .inl (fun _ => 0))), (q15, .inl (G.2.2.2 0, 6, .inl (fun _ => 0))), (q16, .inl (G.2.2.2 0, 20, .inl (fun _ => 0))), (q17, .inl (G.2.2.2 0, 36, .inl (fun _ => 0)))] dX10_init_142 kF_RX10_63 rfl rfl rfl (Nat.le_of_ble_eq_true rfl) rfl ?_
  exact k_ret dX10_init_145 rfl (Nat.le_of_ble_eq_true rfl) (Nat.le_of_ble_eq_true rfl) ⟨q1, q2, q3, q4, q5, q6, q7, q8, q9, q10, q11, q12, q13, q14, q15, q16, q17, rfl⟩
