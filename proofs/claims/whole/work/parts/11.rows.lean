/-! a row an instruction, over the layout -/
section DHR
variable {G : dh_G} {M : dh_M} {pc : Nat} {lv : List (Option Value)} {st : List Value} {h : dh_H} {Q : Option Value → dh_H → Prop}
theorem a_iconst {n : Int} {v : Int32} (hd : decode M.2.1 pc = .ok (.iconst n, 1)) (hv : Int32.ofInt n = v) (k : dh_J G M (pc + 1) lv (.int v :: st) h Q) : dh_J G M pc lv (st) h Q := by
  intro p e s m args below meth c H locs ls C hP hS hl
  exact lv_iconst C.1 C.2.1 hd hv (k p e s m args below meth c H locs ls C hP hS hl)
theorem a_bipush {n : Int} {v : Int32} (hd : decode M.2.1 pc = .ok (.bipush n, 2)) (hv : (Int8.ofInt n).toInt32 = v) (k : dh_J G M (pc + 2) lv (.int v :: st) h Q) : dh_J G M pc lv (st) h Q := by
  intro p e s m args below meth c H locs ls C hP hS hl
  exact lv_bipush C.1 C.2.1 hd hv (k p e s m args below meth c H locs ls C hP hS hl)
theorem a_sipush {n : Int} {v : Int32} (hd : decode M.2.1 pc = .ok (.sipush n, 3)) (hv : (Int16.ofInt n).toInt32 = v) (k : dh_J G M (pc + 3) lv (.int v :: st) h Q) : dh_J G M pc lv (st) h Q := by
  intro p e s m args below meth c H locs ls C hP hS hl
  exact lv_sipush C.1 C.2.1 hd hv (k p e s m args below meth c H locs ls C hP hS hl)
theorem a_ldc {ix : Nat} {v : Int32} (hd : decode M.2.1 pc = .ok (.ldc ix, 2)) (hw : Cond.constant M.1.cls ix v ∈ dh_cw) (k : dh_J G M (pc + 2) lv (.int v :: st) h Q) : dh_J G M pc lv (st) h Q := by
  intro p e s m args below meth c H locs ls C hP hS hl
  exact lv_ldc C.1 C.2.1 C.2.2.2.2.2.1 (C.2.2.2.2.2.2.1 _ hw) hd (k p e s m args below meth c H locs ls C hP hS hl)
theorem a_ldc2 {ix : Nat} {v : Int64} (hd : decode M.2.1 pc = .ok (.ldc2_w ix, 3)) (hw : Cond.constantLong M.1.cls ix v ∈ dh_cw) (k : dh_J G M (pc + 3) lv (.long v :: st) h Q) : dh_J G M pc lv (st) h Q := by
  intro p e s m args below meth c H locs ls C hP hS hl
  exact lv_ldc2 C.1 C.2.1 C.2.2.2.2.2.1 (C.2.2.2.2.2.2.1 _ hw) hd (k p e s m args below meth c H locs ls C hP hS hl)
theorem a_null  (hd : decode M.2.1 pc = .ok (.aconst_null, 1)) (k : dh_J G M (pc + 1) lv (.null :: st) h Q) : dh_J G M pc lv (st) h Q := by
  intro p e s m args below meth c H locs ls C hP hS hl
  exact lv_null C.1 C.2.1 hd (k p e s m args below meth c H locs ls C hP hS hl)
theorem a_iload_n {i : Fin 4} {x : Int32} (hd : decode M.2.1 pc = .ok (.iload_n i, 1)) (hv : lv[i.val]? = some (some (.int x))) (k : dh_J G M (pc + 1) lv (.int x :: st) h Q) : dh_J G M pc lv (st) h Q := by
  intro p e s m args below meth c H locs ls C hP hS hl
  exact lv_iload_n C.1 C.2.1 hd rfl (dh_lv_get hl hv) (k p e s m args below meth c H locs ls C hP hS hl)
theorem a_iload {i : Nat} {x : Int32} (hd : decode M.2.1 pc = .ok (.iload i, 2)) (hv : lv[i]? = some (some (.int x))) (k : dh_J G M (pc + 2) lv (.int x :: st) h Q) : dh_J G M pc lv (st) h Q := by
  intro p e s m args below meth c H locs ls C hP hS hl
  exact lv_iload C.1 C.2.1 hd (dh_lv_get hl hv) (k p e s m args below meth c H locs ls C hP hS hl)
theorem a_lload_n {i : Fin 4} {x : Int64} (hd : decode M.2.1 pc = .ok (.lload_n i, 1)) (hv : lv[i.val]? = some (some (.long x))) (k : dh_J G M (pc + 1) lv (.long x :: st) h Q) : dh_J G M pc lv (st) h Q := by
  intro p e s m args below meth c H locs ls C hP hS hl
  exact lv_lload_n C.1 C.2.1 hd rfl (dh_lv_get hl hv) (k p e s m args below meth c H locs ls C hP hS hl)
theorem a_aload_n {i : Fin 4} {x : Nat} (hd : decode M.2.1 pc = .ok (.aload_n i, 1)) (hv : lv[i.val]? = some (some (.ref x))) (k : dh_J G M (pc + 1) lv (.ref x :: st) h Q) : dh_J G M pc lv (st) h Q := by
  intro p e s m args below meth c H locs ls C hP hS hl
  exact lv_aload_n C.1 C.2.1 hd rfl (dh_lv_get hl hv) (k p e s m args below meth c H locs ls C hP hS hl)
theorem a_aload {i : Nat} {x : Nat} (hd : decode M.2.1 pc = .ok (.aload i, 2)) (hv : lv[i]? = some (some (.ref x))) (k : dh_J G M (pc + 2) lv (.ref x :: st) h Q) : dh_J G M pc lv (st) h Q := by
  intro p e s m args below meth c H locs ls C hP hS hl
  exact lv_aload C.1 C.2.1 hd (dh_lv_get hl hv) (k p e s m args below meth c H locs ls C hP hS hl)
theorem a_aload_nN {i : Fin 4} (hd : decode M.2.1 pc = .ok (.aload_n i, 1)) (hv : lv[i.val]? = some (some .null)) (k : dh_J G M (pc + 1) lv (.null :: st) h Q) : dh_J G M pc lv (st) h Q := by
  intro p e s m args below meth c H locs ls C hP hS hl
  exact lv_aload_nN C.1 C.2.1 hd rfl (dh_lv_get hl hv) (k p e s m args below meth c H locs ls C hP hS hl)
theorem a_istore_n {i : Fin 4} {x : Int32} (hd : decode M.2.1 pc = .ok (.istore_n i, 1)) (hi : i.val < M.2.2.1) (hn : dh_nl lv i.val = true) (k : dh_J G M (pc + 1) (lv.set i.val (some (.int x))) st h Q) : dh_J G M pc lv (.int x :: st) h Q := by
  intro p e s m args below meth c H locs ls C hP hS hl
  exact lv_istore_n C.1 C.2.1 hd rfl hl hi rfl (fun ls' hl' => k p e s m args below meth c H locs ls' C hP hS (dh_lv_set1 hn hl'))
theorem a_istore {i : Nat} {x : Int32} (hd : decode M.2.1 pc = .ok (.istore i, 2)) (hi : i < M.2.2.1) (hn : dh_nl lv i = true) (k : dh_J G M (pc + 2) (lv.set i (some (.int x))) st h Q) : dh_J G M pc lv (.int x :: st) h Q := by
  intro p e s m args below meth c H locs ls C hP hS hl
  exact lv_istore C.1 C.2.1 hd hl hi rfl (fun ls' hl' => k p e s m args below meth c H locs ls' C hP hS (dh_lv_set1 hn hl'))
theorem a_astore_n {i : Fin 4} {x : Nat} (hd : decode M.2.1 pc = .ok (.astore_n i, 1)) (hi : i.val < M.2.2.1) (hn : dh_nl lv i.val = true) (k : dh_J G M (pc + 1) (lv.set i.val (some (.ref x))) st h Q) : dh_J G M pc lv (.ref x :: st) h Q := by
  intro p e s m args below meth c H locs ls C hP hS hl
  exact lv_astore_n C.1 C.2.1 hd rfl hl hi rfl (fun ls' hl' => k p e s m args below meth c H locs ls' C hP hS (dh_lv_set1 hn hl'))
theorem a_astore {i : Nat} {x : Nat} (hd : decode M.2.1 pc = .ok (.astore i, 2)) (hi : i < M.2.2.1) (hn : dh_nl lv i = true) (k : dh_J G M (pc + 2) (lv.set i (some (.ref x))) st h Q) : dh_J G M pc lv (.ref x :: st) h Q := by
  intro p e s m args below meth c H locs ls C hP hS hl
  exact lv_astore C.1 C.2.1 hd hl hi rfl (fun ls' hl' => k p e s m args below meth c H locs ls' C hP hS (dh_lv_set1 hn hl'))
theorem a_astore_nN {i : Fin 4} (hd : decode M.2.1 pc = .ok (.astore_n i, 1)) (hi : i.val < M.2.2.1) (hn : dh_nl lv i.val = true) (k : dh_J G M (pc + 1) (lv.set i.val (some (.null))) st h Q) : dh_J G M pc lv (.null :: st) h Q := by
  intro p e s m args below meth c H locs ls C hP hS hl
  exact lv_astore_nN C.1 C.2.1 hd rfl hl hi rfl (fun ls' hl' => k p e s m args below meth c H locs ls' C hP hS (dh_lv_set1 hn hl'))
theorem a_lstore_n {i : Fin 4} {x : Int64} (hd : decode M.2.1 pc = .ok (.lstore_n i, 1)) (hi : i.val + 1 < M.2.2.1) (hn : dh_nl lv i.val = true) (k : dh_J G M (pc + 1) ((lv.set i.val (some (.long x))).set (i.val + 1) none) st h Q) : dh_J G M pc lv (.long x :: st) h Q := by
  intro p e s m args below meth c H locs ls C hP hS hl
  exact lv_lstore_n C.1 C.2.1 hd rfl hl hi rfl (fun ls' hl' => k p e s m args below meth c H locs ls' C hP hS (dh_lv_set2 hn hl'))
theorem a_iinc {i : Nat} {n : Int} {x v : Int32} (hd : decode M.2.1 pc = .ok (.iinc i n, 3)) (hv : lv[i]? = some (some (.int x))) (hx : x + Int32.ofInt n = v) (hi : i < M.2.2.1) (hn : dh_nl lv i = true) (k : dh_J G M (pc + 3) (lv.set i (some (.int v))) st h Q) : dh_J G M pc lv st h Q := by
  intro p e s m args below meth c H locs ls C hP hS hl
  obtain ⟨j, hj⟩ := List.getElem?_of_mem ((dh_lv_mem G.2.2.1 lv 0 (i, .int x)).mpr ⟨i, .int x, hv, by simp [dh_cv]⟩)
  exact lv_iinc C.1 C.2.1 hd hl hj hx hi rfl (fun ls' hl' => k p e s m args below meth c H locs ls' C hP hS (dh_lv_set1 hn hl'))
theorem a_iadd {x y : Int32} (hd : decode M.2.1 pc = .ok (.iadd, 1)) (k : dh_J G M (pc + 1) lv (.int (x + y) :: st) h Q) : dh_J G M pc lv (.int y :: .int x :: st) h Q := by
  intro p e s m args below meth c H locs ls C hP hS hl
  exact lv_iadd C.1 C.2.1 hd (k p e s m args below meth c H locs ls C hP hS hl)
theorem a_isub {x y : Int32} (hd : decode M.2.1 pc = .ok (.isub, 1)) (k : dh_J G M (pc + 1) lv (.int (x - y) :: st) h Q) : dh_J G M pc lv (.int y :: .int x :: st) h Q := by
  intro p e s m args below meth c H locs ls C hP hS hl
  exact lv_isub C.1 C.2.1 hd (k p e s m args below meth c H locs ls C hP hS hl)
theorem a_imul {x y : Int32} (hd : decode M.2.1 pc = .ok (.imul, 1)) (k : dh_J G M (pc + 1) lv (.int (x * y) :: st) h Q) : dh_J G M pc lv (.int y :: .int x :: st) h Q := by
  intro p e s m args below meth c H locs ls C hP hS hl
  exact lv_imul C.1 C.2.1 hd (k p e s m args below meth c H locs ls C hP hS hl)
theorem a_iand {x y : Int32} (hd : decode M.2.1 pc = .ok (.iand, 1)) (k : dh_J G M (pc + 1) lv (.int (x &&& y) :: st) h Q) : dh_J G M pc lv (.int y :: .int x :: st) h Q := by
  intro p e s m args below meth c H locs ls C hP hS hl
  exact lv_iand C.1 C.2.1 hd (k p e s m args below meth c H locs ls C hP hS hl)
theorem a_ior {x y : Int32} (hd : decode M.2.1 pc = .ok (.ior, 1)) (k : dh_J G M (pc + 1) lv (.int (x ||| y) :: st) h Q) : dh_J G M pc lv (.int y :: .int x :: st) h Q := by
  intro p e s m args below meth c H locs ls C hP hS hl
  exact lv_ior C.1 C.2.1 hd (k p e s m args below meth c H locs ls C hP hS hl)
theorem a_ixor {x y : Int32} (hd : decode M.2.1 pc = .ok (.ixor, 1)) (k : dh_J G M (pc + 1) lv (.int (x ^^^ y) :: st) h Q) : dh_J G M pc lv (.int y :: .int x :: st) h Q := by
  intro p e s m args below meth c H locs ls C hP hS hl
  exact lv_ixor C.1 C.2.1 hd (k p e s m args below meth c H locs ls C hP hS hl)
theorem a_ishl {x y : Int32} (hd : decode M.2.1 pc = .ok (.ishl, 1)) (k : dh_J G M (pc + 1) lv (.int (x <<< (y &&& 31)) :: st) h Q) : dh_J G M pc lv (.int y :: .int x :: st) h Q := by
  intro p e s m args below meth c H locs ls C hP hS hl
  exact lv_ishl C.1 C.2.1 hd (k p e s m args below meth c H locs ls C hP hS hl)
theorem a_ishr {x y : Int32} (hd : decode M.2.1 pc = .ok (.ishr, 1)) (k : dh_J G M (pc + 1) lv (.int (x >>> (y &&& 31)) :: st) h Q) : dh_J G M pc lv (.int y :: .int x :: st) h Q := by
  intro p e s m args below meth c H locs ls C hP hS hl
  exact lv_ishr C.1 C.2.1 hd (k p e s m args below meth c H locs ls C hP hS hl)
theorem a_idiv {x y : Int32} (hd : decode M.2.1 pc = .ok (.idiv, 1)) (h0 : ¬ y = 0) (k : dh_J G M (pc + 1) lv (.int (x / y) :: st) h Q) : dh_J G M pc lv (.int y :: .int x :: st) h Q := by
  intro p e s m args below meth c H locs ls C hP hS hl
  exact lv_idiv C.1 C.2.1 hd h0 (k p e s m args below meth c H locs ls C hP hS hl)
theorem a_irem {x y : Int32} (hd : decode M.2.1 pc = .ok (.irem, 1)) (h0 : ¬ y = 0) (k : dh_J G M (pc + 1) lv (.int (x - x / y * y) :: st) h Q) : dh_J G M pc lv (.int y :: .int x :: st) h Q := by
  intro p e s m args below meth c H locs ls C hP hS hl
  exact lv_irem C.1 C.2.1 hd h0 (k p e s m args below meth c H locs ls C hP hS hl)
theorem a_ladd {x y : Int64} (hd : decode M.2.1 pc = .ok (.ladd, 1)) (k : dh_J G M (pc + 1) lv (.long (x + y) :: st) h Q) : dh_J G M pc lv (.long y :: .long x :: st) h Q := by
  intro p e s m args below meth c H locs ls C hP hS hl
  exact lv_ladd C.1 C.2.1 hd (k p e s m args below meth c H locs ls C hP hS hl)
theorem a_lmul {x y : Int64} (hd : decode M.2.1 pc = .ok (.lmul, 1)) (k : dh_J G M (pc + 1) lv (.long (x * y) :: st) h Q) : dh_J G M pc lv (.long y :: .long x :: st) h Q := by
  intro p e s m args below meth c H locs ls C hP hS hl
  exact lv_lmul C.1 C.2.1 hd (k p e s m args below meth c H locs ls C hP hS hl)
theorem a_land {x y : Int64} (hd : decode M.2.1 pc = .ok (.land, 1)) (k : dh_J G M (pc + 1) lv (.long (x &&& y) :: st) h Q) : dh_J G M pc lv (.long y :: .long x :: st) h Q := by
  intro p e s m args below meth c H locs ls C hP hS hl
  exact lv_land C.1 C.2.1 hd (k p e s m args below meth c H locs ls C hP hS hl)
theorem a_ldiv {x y : Int64} (hd : decode M.2.1 pc = .ok (.ldiv, 1)) (h0 : ¬ y = 0) (k : dh_J G M (pc + 1) lv (.long (x / y) :: st) h Q) : dh_J G M pc lv (.long y :: .long x :: st) h Q := by
  intro p e s m args below meth c H locs ls C hP hS hl
  exact lv_ldiv C.1 C.2.1 hd h0 (k p e s m args below meth c H locs ls C hP hS hl)
theorem a_lrem {x y : Int64} (hd : decode M.2.1 pc = .ok (.lrem, 1)) (h0 : ¬ y = 0) (k : dh_J G M (pc + 1) lv (.long (x - x / y * y) :: st) h Q) : dh_J G M pc lv (.long y :: .long x :: st) h Q := by
  intro p e s m args below meth c H locs ls C hP hS hl
  exact lv_lrem C.1 C.2.1 hd h0 (k p e s m args below meth c H locs ls C hP hS hl)
theorem a_iushr {x y : Int32} (hd : decode M.2.1 pc = .ok (.iushr, 1)) (k : dh_J G M (pc + 1) lv (.int (x.toUInt32 >>> (y.toUInt32 &&& Int32.toUInt32 31)).toInt32 :: st) h Q) : dh_J G M pc lv (.int y :: .int x :: st) h Q := by
  intro p e s m args below meth c H locs ls C hP hS hl
  exact lv_iushr C.1 C.2.1 hd rfl (k p e s m args below meth c H locs ls C hP hS hl)
theorem a_ldcw {ix : Nat} {v : Int32} (hd : decode M.2.1 pc = .ok (.ldc_w ix, 3)) (hw : Cond.constant M.1.cls ix v ∈ dh_cw) (k : dh_J G M (pc + 3) lv (.int v :: st) h Q) : dh_J G M pc lv (st) h Q := by
  intro p e s m args below meth c H locs ls C hP hS hl
  exact lv_ldcw C.1 C.2.1 C.2.2.2.2.2.1 (C.2.2.2.2.2.2.1 _ hw) hd (k p e s m args below meth c H locs ls C hP hS hl)
theorem a_i2l {x : Int32} (hd : decode M.2.1 pc = .ok (.i2l, 1)) (k : dh_J G M (pc + 1) lv (.long x.toInt64 :: st) h Q) : dh_J G M pc lv (.int x :: st) h Q := by
  intro p e s m args below meth c H locs ls C hP hS hl
  exact lv_i2l C.1 C.2.1 hd rfl (k p e s m args below meth c H locs ls C hP hS hl)
theorem a_l2i {x : Int64} (hd : decode M.2.1 pc = .ok (.l2i, 1)) (k : dh_J G M (pc + 1) lv (.int x.toInt32 :: st) h Q) : dh_J G M pc lv (.long x :: st) h Q := by
  intro p e s m args below meth c H locs ls C hP hS hl
  exact lv_l2i C.1 C.2.1 hd rfl (k p e s m args below meth c H locs ls C hP hS hl)
theorem a_dup {v : Value} (hd : decode M.2.1 pc = .ok (.dup, 1)) (hv : v.category = 1) (k : dh_J G M (pc + 1) lv (v :: v :: st) h Q) : dh_J G M pc lv (v :: st) h Q := by
  intro p e s m args below meth c H locs ls C hP hS hl
  exact lv_dup C.1 C.2.1 hd (by rw [dh_cv_cat]; exact hv) (k p e s m args below meth c H locs ls C hP hS hl)
theorem a_dup2 {v w : Value} (hd : decode M.2.1 pc = .ok (.dup2, 1)) (hv : v.category = 1) (hw : w.category = 1) (k : dh_J G M (pc + 1) lv (v :: w :: v :: w :: st) h Q) : dh_J G M pc lv (v :: w :: st) h Q := by
  intro p e s m args below meth c H locs ls C hP hS hl
  exact lv_dup2_11 C.1 C.2.1 hd (by rw [dh_cv_cat]; exact hv) (by rw [dh_cv_cat]; exact hw) (k p e s m args below meth c H locs ls C hP hS hl)
theorem a_pop {v : Value} (hd : decode M.2.1 pc = .ok (.pop, 1)) (hv : v.category = 1) (k : dh_J G M (pc + 1) lv st h Q) : dh_J G M pc lv (v :: st) h Q := by
  intro p e s m args below meth c H locs ls C hP hS hl
  exact lv_pop C.1 C.2.1 hd (by rw [dh_cv_cat]; exact hv) (k p e s m args below meth c H locs ls C hP hS hl)
theorem a_icmp_eq {x y : Int32} {off : Int} (tgt : Nat) (hd : decode M.2.1 pc = .ok (.if_icmp .eq off, 3)) (ht : (pc : Int) + off = (tgt : Int)) (kt : x = y → dh_J G M tgt lv st h Q) (kf : ¬ x = y → dh_J G M (pc + 3) lv st h Q) : dh_J G M pc lv (.int y :: .int x :: st) h Q := by
  intro p e s m args below meth c H locs ls C hP hS hl
  exact lv_icmp_eq C.1 C.2.1 hd ht (fun q => kt q p e s m args below meth c H locs ls C hP hS hl) (fun q => kf q p e s m args below meth c H locs ls C hP hS hl)
theorem a_if_eq {x : Int32} {off : Int} (tgt : Nat) (hd : decode M.2.1 pc = .ok (.ifCond .eq off, 3)) (ht : (pc : Int) + off = (tgt : Int)) (kt : x = 0 → dh_J G M tgt lv st h Q) (kf : ¬ x = 0 → dh_J G M (pc + 3) lv st h Q) : dh_J G M pc lv (.int x :: st) h Q := by
  intro p e s m args below meth c H locs ls C hP hS hl
  exact lv_if_eq C.1 C.2.1 hd ht (fun q => kt q p e s m args below meth c H locs ls C hP hS hl) (fun q => kf q p e s m args below meth c H locs ls C hP hS hl)
theorem a_icmp_ne {x y : Int32} {off : Int} (tgt : Nat) (hd : decode M.2.1 pc = .ok (.if_icmp .ne off, 3)) (ht : (pc : Int) + off = (tgt : Int)) (kt : ¬ x = y → dh_J G M tgt lv st h Q) (kf : x = y → dh_J G M (pc + 3) lv st h Q) : dh_J G M pc lv (.int y :: .int x :: st) h Q := by
  intro p e s m args below meth c H locs ls C hP hS hl
  exact lv_icmp_ne C.1 C.2.1 hd ht (fun q => kt q p e s m args below meth c H locs ls C hP hS hl) (fun q => kf q p e s m args below meth c H locs ls C hP hS hl)
theorem a_if_ne {x : Int32} {off : Int} (tgt : Nat) (hd : decode M.2.1 pc = .ok (.ifCond .ne off, 3)) (ht : (pc : Int) + off = (tgt : Int)) (kt : ¬ x = 0 → dh_J G M tgt lv st h Q) (kf : x = 0 → dh_J G M (pc + 3) lv st h Q) : dh_J G M pc lv (.int x :: st) h Q := by
  intro p e s m args below meth c H locs ls C hP hS hl
  exact lv_if_ne C.1 C.2.1 hd ht (fun q => kt q p e s m args below meth c H locs ls C hP hS hl) (fun q => kf q p e s m args below meth c H locs ls C hP hS hl)
theorem a_icmp_lt {x y : Int32} {off : Int} (tgt : Nat) (hd : decode M.2.1 pc = .ok (.if_icmp .lt off, 3)) (ht : (pc : Int) + off = (tgt : Int)) (kt : x < y → dh_J G M tgt lv st h Q) (kf : ¬ x < y → dh_J G M (pc + 3) lv st h Q) : dh_J G M pc lv (.int y :: .int x :: st) h Q := by
  intro p e s m args below meth c H locs ls C hP hS hl
  exact lv_icmp_lt C.1 C.2.1 hd ht (fun q => kt q p e s m args below meth c H locs ls C hP hS hl) (fun q => kf q p e s m args below meth c H locs ls C hP hS hl)
theorem a_if_lt {x : Int32} {off : Int} (tgt : Nat) (hd : decode M.2.1 pc = .ok (.ifCond .lt off, 3)) (ht : (pc : Int) + off = (tgt : Int)) (kt : x < 0 → dh_J G M tgt lv st h Q) (kf : ¬ x < 0 → dh_J G M (pc + 3) lv st h Q) : dh_J G M pc lv (.int x :: st) h Q := by
  intro p e s m args below meth c H locs ls C hP hS hl
  exact lv_if_lt C.1 C.2.1 hd ht (fun q => kt q p e s m args below meth c H locs ls C hP hS hl) (fun q => kf q p e s m args below meth c H locs ls C hP hS hl)
theorem a_icmp_ge {x y : Int32} {off : Int} (tgt : Nat) (hd : decode M.2.1 pc = .ok (.if_icmp .ge off, 3)) (ht : (pc : Int) + off = (tgt : Int)) (kt : y ≤ x → dh_J G M tgt lv st h Q) (kf : ¬ y ≤ x → dh_J G M (pc + 3) lv st h Q) : dh_J G M pc lv (.int y :: .int x :: st) h Q := by
  intro p e s m args below meth c H locs ls C hP hS hl
  exact lv_icmp_ge C.1 C.2.1 hd ht (fun q => kt q p e s m args below meth c H locs ls C hP hS hl) (fun q => kf q p e s m args below meth c H locs ls C hP hS hl)
theorem a_if_ge {x : Int32} {off : Int} (tgt : Nat) (hd : decode M.2.1 pc = .ok (.ifCond .ge off, 3)) (ht : (pc : Int) + off = (tgt : Int)) (kt : 0 ≤ x → dh_J G M tgt lv st h Q) (kf : ¬ 0 ≤ x → dh_J G M (pc + 3) lv st h Q) : dh_J G M pc lv (.int x :: st) h Q := by
  intro p e s m args below meth c H locs ls C hP hS hl
  exact lv_if_ge C.1 C.2.1 hd ht (fun q => kt q p e s m args below meth c H locs ls C hP hS hl) (fun q => kf q p e s m args below meth c H locs ls C hP hS hl)
theorem a_icmp_gt {x y : Int32} {off : Int} (tgt : Nat) (hd : decode M.2.1 pc = .ok (.if_icmp .gt off, 3)) (ht : (pc : Int) + off = (tgt : Int)) (kt : y < x → dh_J G M tgt lv st h Q) (kf : ¬ y < x → dh_J G M (pc + 3) lv st h Q) : dh_J G M pc lv (.int y :: .int x :: st) h Q := by
  intro p e s m args below meth c H locs ls C hP hS hl
  exact lv_icmp_gt C.1 C.2.1 hd ht (fun q => kt q p e s m args below meth c H locs ls C hP hS hl) (fun q => kf q p e s m args below meth c H locs ls C hP hS hl)
theorem a_if_gt {x : Int32} {off : Int} (tgt : Nat) (hd : decode M.2.1 pc = .ok (.ifCond .gt off, 3)) (ht : (pc : Int) + off = (tgt : Int)) (kt : 0 < x → dh_J G M tgt lv st h Q) (kf : ¬ 0 < x → dh_J G M (pc + 3) lv st h Q) : dh_J G M pc lv (.int x :: st) h Q := by
  intro p e s m args below meth c H locs ls C hP hS hl
  exact lv_if_gt C.1 C.2.1 hd ht (fun q => kt q p e s m args below meth c H locs ls C hP hS hl) (fun q => kf q p e s m args below meth c H locs ls C hP hS hl)
theorem a_icmp_le {x y : Int32} {off : Int} (tgt : Nat) (hd : decode M.2.1 pc = .ok (.if_icmp .le off, 3)) (ht : (pc : Int) + off = (tgt : Int)) (kt : x ≤ y → dh_J G M tgt lv st h Q) (kf : ¬ x ≤ y → dh_J G M (pc + 3) lv st h Q) : dh_J G M pc lv (.int y :: .int x :: st) h Q := by
  intro p e s m args below meth c H locs ls C hP hS hl
  exact lv_icmp_le C.1 C.2.1 hd ht (fun q => kt q p e s m args below meth c H locs ls C hP hS hl) (fun q => kf q p e s m args below meth c H locs ls C hP hS hl)
theorem a_if_le {x : Int32} {off : Int} (tgt : Nat) (hd : decode M.2.1 pc = .ok (.ifCond .le off, 3)) (ht : (pc : Int) + off = (tgt : Int)) (kt : x ≤ 0 → dh_J G M tgt lv st h Q) (kf : ¬ x ≤ 0 → dh_J G M (pc + 3) lv st h Q) : dh_J G M pc lv (.int x :: st) h Q := by
  intro p e s m args below meth c H locs ls C hP hS hl
  exact lv_if_le C.1 C.2.1 hd ht (fun q => kt q p e s m args below meth c H locs ls C hP hS hl) (fun q => kf q p e s m args below meth c H locs ls C hP hS hl)
theorem a_goto {off : Int} (tgt : Nat) (hd : decode M.2.1 pc = .ok (.goto off, 3)) (ht : (pc : Int) + off = (tgt : Int)) (k : dh_J G M tgt lv st h Q) : dh_J G M pc lv st h Q := by
  intro p e s m args below meth c H locs ls C hP hS hl
  exact lv_goto C.1 C.2.1 hd ht (k p e s m args below meth c H locs ls C hP hS hl)
theorem a_ifnonnull {x : Nat} {off : Int} (tgt : Nat) (hd : decode M.2.1 pc = .ok (.ifnonnull off, 3)) (ht : (pc : Int) + off = (tgt : Int)) (k : dh_J G M tgt lv st h Q) : dh_J G M pc lv (.ref x :: st) h Q := by
  intro p e s m args below meth c H locs ls C hP hS hl
  exact lv_ifnonnull C.1 C.2.1 hd ht (k p e s m args below meth c H locs ls C hP hS hl)
theorem a_ifnonnullN {off : Int} (hd : decode M.2.1 pc = .ok (.ifnonnull off, 3)) (k : dh_J G M (pc + 3) lv st h Q) : dh_J G M pc lv (.null :: st) h Q := by
  intro p e s m args below meth c H locs ls C hP hS hl
  exact lv_ifnonnullN C.1 C.2.1 hd (k p e s m args below meth c H locs ls C hP hS hl)
theorem a_ifnull {x : Nat} {off : Int} (hd : decode M.2.1 pc = .ok (.ifnull off, 3)) (k : dh_J G M (pc + 3) lv st h Q) : dh_J G M pc lv (.ref x :: st) h Q := by
  intro p e s m args below meth c H locs ls C hP hS hl
  exact lv_ifnull C.1 C.2.1 hd (k p e s m args below meth c H locs ls C hP hS hl)
theorem a_tableOut {dflt lo hi : Int} {offs : Array Int} {len : Nat} {x : Int32} (tgt : Nat) (hd : decode M.2.1 pc = .ok (.tableswitch dflt lo hi offs, len)) (hx : x.toInt < lo ∨ hi < x.toInt) (ht : (pc : Int) + dflt = (tgt : Int)) (k : dh_J G M tgt lv st h Q) : dh_J G M pc lv (.int x :: st) h Q := by
  intro p e s m args below meth c H locs ls C hP hS hl
  exact lv_tableOut C.1 C.2.1 hd hx ht (k p e s m args below meth c H locs ls C hP hS hl)
theorem a_tableIn {dflt lo hi : Int} {offs : Array Int} {len : Nat} {x : Int32} {off : Int} (tgt : Nat) (hd : decode M.2.1 pc = .ok (.tableswitch dflt lo hi offs, len)) (h1 : ¬ x.toInt < lo) (h2 : ¬ hi < x.toInt) (ho : offs[(x.toInt - lo).toNat]? = some off) (ht : (pc : Int) + off = (tgt : Int)) (k : dh_J G M tgt lv st h Q) : dh_J G M pc lv (.int x :: st) h Q := by
  intro p e s m args below meth c H locs ls C hP hS hl
  exact lv_tableIn C.1 C.2.1 hd h1 h2 ho ht (k p e s m args below meth c H locs ls C hP hS hl)
/-- what field ix of class own is: slot k of class number ci -/
def dh_F (own : String) (ix ci k : Nat) (fin : Bool) (ty : FieldType) : Prop :=
  ∃ (C : String) (T : u_T) (N : Nat) (tf : Nat → FieldType), vwCl[ci]? = some (C, T, N) ∧ k < N ∧ (∀ w ∈ u_ws C T N, w ∈ dh_cw) ∧ (∀ k, k < N → parseFieldDescriptor (T k).2.2.1 = some (tf k)) ∧ (∀ a, a < N → ∀ b, b < N → a ≠ b → (T a).2.1 ≠ (T b).2.1) ∧ (Cond.fieldLink own ix (T k).1 (T k).2.1 (T k).2.2.1 ∈ dh_cw ∨ ∃ host, Cond.fieldLinkNest own ix (T k).1 (T k).2.1 (T k).2.2.1 host ∈ dh_NW) ∧ (T k).2.2.2 = fin ∧ tf k = ty
theorem a_getV {ix ci i k : Nat} {fin : Bool} {ty : FieldType} {fl : List (Option Nat)} {o : Option Nat} {v : Value} (hd : decode M.2.1 pc = .ok (.getfield ix, 3)) (hf : dh_F M.1.cls ix ci k fin ty) (ho : dh_LAY[i]? = some (.inl (ci, fl))) (hk : fl[k]? = some o) (hv : dh_cv G.2.2.1 v = dh_fld G.2.2.1 h i k o) (kk : dh_J G M (pc + 3) lv (v :: st) h Q) : dh_J G M pc lv (.ref i :: st) h Q := by
  intro p e s m args below meth c H locs ls C hP hS hl
  obtain ⟨CC, T, N, tf, h1, h2, h3, h4, h5, h6, h7, h8⟩ := hf
  have kk' := kk p e s m args below meth c H locs ls C hP hS hl
  have hfs : (fl.mapIdx (fun k o => dh_fld G.2.2.1 h i k o))[k]? = some (dh_cv G.2.2.1 v) := by rw [List.getElem?_mapIdx, hk, hv]; rfl
  rcases h6 with h6 | ⟨host, h6⟩
  · exact va_get C.1 C.2.1 C.2.2.2.2.2.2.1 h3 C.2.2.2.2.2.1 C.2.2.2.2.2.2.2.1 hP i (dh_W_at ho) h1 k h2 (C.2.2.2.2.2.2.1 _ h6) (fun _ q => q) hfs hd kk'
  · exact va_getN C.1 C.2.1 C.2.2.2.2.2.2.1 h3 C.2.2.2.2.2.1 C.2.2.2.2.2.2.2.1 hP i (dh_W_at ho) h1 k h2 ((C.2.2.2.2.2.2.2.2.1 _ h6).use rfl) (fun _ q => q) hfs hd kk'
theorem a_getI {ix ci i k : Nat} {fin : Bool} {ty : FieldType} {fl : List (Option Nat)} (hd : decode M.2.1 pc = .ok (.getfield ix, 3)) (hf : dh_F M.1.cls ix ci k fin ty) (ho : dh_LAY[i]? = some (.inl (ci, fl))) (hk : fl[k]? = some none) (kk : dh_J G M (pc + 3) lv (.int (h i k) :: st) h Q) : dh_J G M pc lv (.ref i :: st) h Q := a_getV hd hf ho hk rfl kk
theorem a_getR {ix ci i k r : Nat} {fin : Bool} {ty : FieldType} {fl : List (Option Nat)} (hd : decode M.2.1 pc = .ok (.getfield ix, 3)) (hf : dh_F M.1.cls ix ci k fin ty) (ho : dh_LAY[i]? = some (.inl (ci, fl))) (hk : fl[k]? = some (some r)) (kk : dh_J G M (pc + 3) lv (.ref r :: st) h Q) : dh_J G M pc lv (.ref i :: st) h Q := a_getV hd hf ho hk rfl kk
theorem a_put {ix ci i k : Nat} {ty : FieldType} {fl : List (Option Nat)} {x : Int32} (hd : decode M.2.1 pc = .ok (.putfield ix, 3)) (hf : dh_F M.1.cls ix ci k false ty) (ho : dh_LAY[i]? = some (.inl (ci, fl))) (hk : fl[k]? = some none) (hn : narrow ty (.int x) = .int x) (hfit : fits ty (.int x) = true) (kk : dh_J G M (pc + 3) lv st (dh_s h i k x) Q) : dh_J G M pc lv (.int x :: .ref i :: st) h Q := by
  intro p e s m args below meth c H locs ls C hP hS hl
  obtain ⟨CC, T, N, tf, h1, h2, h3, h4, h5, h6, h7, h8⟩ := hf
  have hlen : k < (fl.mapIdx (fun k o => dh_fld G.2.2.1 h i k o)).length := by
    have := (List.getElem?_eq_some_iff.mp hk).1
    simpa using this
  have hset : ∀ e', e' = dh_E G (dh_s h i k x) i (.inl (ci, fl)) → (dh_W G h).set i (G.2.2.1 i, e') = dh_W G (dh_s h i k x) := fun e' he' => dh_W_set ho he' (fun j hj => dh_s_n hj)
  rcases h6 with h6 | ⟨host, h6⟩
  · refine va_put (A := dh_A G) (ty := ty) C.1 C.2.1 C.2.2.2.2.2.2.1 h3 tf h4 h5 C.2.2.2.2.2.1 C.2.2.2.2.2.2.2.1 hP (dh_W_D C.2.2.2.2.2.2.2.2.2 h) hS i (dh_W_at ho) h1 k h2 (C.2.2.2.2.2.2.1 _ h6) (fun _ q => q) h7 (by rw [h4 k h2, h8]) hn hfit hlen hd (fun H1 locs1 hP1 hD1 hS1 => ?_)
    have hP2 : va_P G.2.1 vwCl (dh_W G (dh_s h i k x)) H1 := by rw [← hset _ (dh_E_put hk)]; exact hP1
    exact kk p e s m args below meth c H1 locs1 ls C hP2 hS1 hl
  · refine va_putN (A := dh_A G) (ty := ty) C.1 C.2.1 C.2.2.2.2.2.2.1 h3 tf h4 h5 C.2.2.2.2.2.1 C.2.2.2.2.2.2.2.1 hP (dh_W_D C.2.2.2.2.2.2.2.2.2 h) hS i (dh_W_at ho) h1 k h2 ((C.2.2.2.2.2.2.2.2.1 _ h6).use rfl) (fun _ q => q) h7 (by rw [h4 k h2, h8]) hn hfit hlen hd (fun H1 locs1 hP1 hD1 hS1 => ?_)
    have hP2 : va_P G.2.1 vwCl (dh_W G (dh_s h i k x)) H1 := by rw [← hset _ (dh_E_put hk)]; exact hP1
    exact kk p e s m args below meth c H1 locs1 ls C hP2 hS1 hl
theorem a_iald {i n : Nat} {x : Int32} (hd : decode M.2.1 pc = .ok (.iaload, 1)) (ho : dh_LAY[i]? = some (.inr (0, n, []))) (hin : vp_in x n) (k : dh_J G M (pc + 1) lv (.int (h i x.toNatClampNeg) :: st) h Q) : dh_J G M pc lv (.int x :: .ref i :: st) h Q := by
  intro p e s m args below meth c H locs ls C hP hS hl
  exact va_iald C.1 C.2.1 C.2.2.2.2.2.2.2.1 hP i 0 (dh_W_at ho) rfl hin hd (k p e s m args below meth c H locs ls C hP hS hl)
theorem a_zald {i n : Nat} {x : Int32} (hd : decode M.2.1 pc = .ok (.baload, 1)) (ho : dh_LAY[i]? = some (.inr (1, n, []))) (hin : vp_in x n) (k : dh_J G M (pc + 1) lv (.int (h i x.toNatClampNeg) :: st) h Q) : dh_J G M pc lv (.int x :: .ref i :: st) h Q := by
  intro p e s m args below meth c H locs ls C hP hS hl
  exact va_zald C.1 C.2.1 C.2.2.2.2.2.2.2.1 hP i 1 (dh_W_at ho) rfl hin hd (k p e s m args below meth c H locs ls C hP hS hl)
theorem a_iast {i n : Nat} {x v : Int32} (hd : decode M.2.1 pc = .ok (.iastore, 1)) (ho : dh_LAY[i]? = some (.inr (0, n, []))) (hin : vp_in x n) (k : dh_J G M (pc + 1) lv st (dh_s h i x.toNatClampNeg v) Q) : dh_J G M pc lv (.int v :: .int x :: .ref i :: st) h Q := by
  intro p e s m args below meth c H locs ls C hP hS hl
  refine va_iast (A := dh_A G) C.1 C.2.1 C.2.2.2.2.2.2.2.1 hP (dh_W_D C.2.2.2.2.2.2.2.2.2 h) hS i 0 (dh_W_at ho) rfl hin hd (fun H1 locs1 hP1 hD1 hS1 => ?_)
  rw [dh_W_set (h' := dh_s h i x.toNatClampNeg v) ho (by show _ = (.inl (G.2.2.2 0, n, .inl (dh_s h i x.toNatClampNeg v i)) : va_E); rw [dh_s_i]) (fun j hj => dh_s_n hj)] at hP1
  exact k p e s m args below meth c H1 locs1 ls C hP1 hS1 hl
theorem a_ialdN {i n j : Nat} {x : Int32} (hd : decode M.2.1 pc = .ok (.iaload, 1)) (ho : dh_LAY[i]? = some (.inr (0, n, []))) (hx : x = nI j) (hj : j < n) (hn : n < 2 ^ 31) (k : dh_J G M (pc + 1) lv (.int (h i j) :: st) h Q) : dh_J G M pc lv (.int x :: .ref i :: st) h Q := by
  subst hx
  exact a_iald hd ho (vp_in_nI hj hn) (by rw [nI_clamp (Nat.lt_trans hj hn)]; exact k)
theorem a_iastN {i n j : Nat} {x v : Int32} (hd : decode M.2.1 pc = .ok (.iastore, 1)) (ho : dh_LAY[i]? = some (.inr (0, n, []))) (hx : x = nI j) (hj : j < n) (hn : n < 2 ^ 31) (k : dh_J G M (pc + 1) lv st (dh_s h i j v) Q) : dh_J G M pc lv (.int v :: .int x :: .ref i :: st) h Q := by
  subst hx
  exact a_iast hd ho (vp_in_nI hj hn) (by rw [nI_clamp (Nat.lt_trans hj hn)]; exact k)
theorem a_zast {i n : Nat} {x v : Int32} (hd : decode M.2.1 pc = .ok (.bastore, 1)) (ho : dh_LAY[i]? = some (.inr (1, n, []))) (hin : vp_in x n) (k : dh_J G M (pc + 1) lv st (dh_s h i x.toNatClampNeg (vp_nar .boolean v)) Q) : dh_J G M pc lv (.int v :: .int x :: .ref i :: st) h Q := by
  intro p e s m args below meth c H locs ls C hP hS hl
  refine va_zast (A := dh_A G) C.1 C.2.1 C.2.2.2.2.2.2.2.1 hP (dh_W_D C.2.2.2.2.2.2.2.2.2 h) hS i 1 (dh_W_at ho) rfl hin hd (fun H1 locs1 hP1 hD1 hS1 => ?_)
  rw [dh_W_set (h' := dh_s h i x.toNatClampNeg (vp_nar .boolean v)) ho (by show _ = (.inl (G.2.2.2 1, n, .inl (dh_s h i x.toNatClampNeg (vp_nar .boolean v) i)) : va_E); rw [dh_s_i]) (fun j hj => dh_s_n hj)] at hP1
  exact k p e s m args below meth c H1 locs1 ls C hP1 hS1 hl
theorem a_aald {i n kd r0 r : Nat} {rs : List Nat} {x : Int32} (hd : decode M.2.1 pc = .ok (.aaload, 1)) (ho : dh_LAY[i]? = some (.inr (kd, n, r0 :: rs))) (hkd : kd = 2 ∨ kd = 3) (hin : vp_in x n) (hr : (r0 :: rs)[x.toNatClampNeg]? = some r) (k : dh_J G M (pc + 1) lv (.ref r :: st) h Q) : dh_J G M pc lv (.int x :: .ref i :: st) h Q := by
  intro p e s m args below meth c H locs ls C hP hS hl
  have k1 := (k p e s m args below meth c H locs ls C hP hS hl)
  have hlt : x.toNatClampNeg < n := Nat.not_le.mp fun q => hin (Or.inr q)
  have ha := dh_W_at (G := G) (h := h) ho
  have hK := C.2.2.2.2.2.2.2.1
  have hv : va_rf (((r0 :: rs)[x.toNatClampNeg]?).map G.2.2.1) = .ref (G.2.2.1 r) := by rw [hr]; rfl
  rcases hkd with rfl | rfl
  · exact W.aald (v := .ref (G.2.2.1 r)) (ty := .object "DummyHunt$Image") C.1 C.2.1 (hP i _ ha) ((hK.2 2 _ rfl).1 n (fun j => va_rf (((r0 :: rs)[j]?).map G.2.2.1))) rfl (fun q => by cases q) (by show ¬ (x < 0 ∨ (arrV _ _ _).slots.size ≤ _); rw [arrV_size]; exact hin) (by show (arrV _ _ _).slots[_]? = _; rw [arrV_read _ _ hlt, ← hv]) rfl rfl hd k1
  · exact W.aald (v := .ref (G.2.2.1 r)) (ty := .array .int) C.1 C.2.1 (hP i _ ha) ((hK.2 3 _ rfl).1 n (fun j => va_rf (((r0 :: rs)[j]?).map G.2.2.1))) rfl (fun q => by cases q) (by show ¬ (x < 0 ∨ (arrV _ _ _).slots.size ≤ _); rw [arrV_size]; exact hin) (by show (arrV _ _ _).slots[_]? = _; rw [arrV_read _ _ hlt, ← hv]) rfl rfl hd k1
theorem a_alenI {i n : Nat} (hd : decode M.2.1 pc = .ok (.arraylength, 1)) (ho : dh_LAY[i]? = some (.inr (0, n, []))) (k : dh_J G M (pc + 1) lv (.int (nI n) :: st) h Q) : dh_J G M pc lv (.ref i :: st) h Q := by
  intro p e s m args below meth c H locs ls C hP hS hl
  exact va_alen C.1 C.2.1 C.2.2.2.2.2.2.2.1 hP i 0 (dh_W_at ho) rfl rfl hd (k p e s m args below meth c H locs ls C hP hS hl)
theorem a_alenR {i n r0 : Nat} {rs : List Nat} (hd : decode M.2.1 pc = .ok (.arraylength, 1)) (ho : dh_LAY[i]? = some (.inr (2, n, r0 :: rs))) (k : dh_J G M (pc + 1) lv (.int (nI n) :: st) h Q) : dh_J G M pc lv (.ref i :: st) h Q := by
  intro p e s m args below meth c H locs ls C hP hS hl
  exact va_alen C.1 C.2.1 C.2.2.2.2.2.2.2.1 hP i 2 (dh_W_at ho) rfl rfl hd (k p e s m args below meth c H locs ls C hP hS hl)
theorem a_copy {ix i j n0 n1 : Nat} {sp dp n : Int32} (hd : decode M.2.1 pc = .ok (.invokestatic ix, 3)) (hw : Cond.methodLink M.1.cls ix arraycopyName ∈ dh_cw) (hw2 : Cond.native arraycopyName ∈ dh_cw ∧ Cond.static arraycopyName ∈ dh_cw ∧ Cond.initialized "java/lang/System" ∈ dh_cw) (hi : dh_LAY[i]? = some (.inr (0, n0, []))) (hj : dh_LAY[j]? = some (.inr (0, n1, []))) (hM : 1 ≤ M.2.2.2.2) (hst : (st.map fun v => v.category).sum + (nativeFrameWords "java/lang/System" "arraycopy" 5 + 11) ≤ 36) (h1 : ¬ sp < 0) (h2 : ¬ dp < 0) (h3 : ¬ n < 0) (h4 : sp.toNatClampNeg + n.toNatClampNeg ≤ n0) (h5 : dp.toNatClampNeg + n.toNatClampNeg ≤ n1) (k : dh_J G M (pc + 3) lv st (dh_c h i j sp.toNatClampNeg dp.toNatClampNeg n.toNatClampNeg) Q) : dh_J G M pc lv (.int n :: .int dp :: .ref j :: .int sp :: .ref i :: st) h Q := by
  intro p e s m args below meth c H locs ls C hP hS hl
  have hc : ((st.map (dh_cv G.2.2.1)).map fun v => v.category) = (st.map fun v => v.category) := by
    rw [List.map_map]
    exact List.map_congr_left (fun v _ => dh_cv_cat _ v)
  refine va_copyi (A := dh_A G) (ty := .int) C.1 C.2.1 (C.2.2.1.trans hl.1.symm) C.2.2.2.2.2.1 (C.2.2.2.2.2.2.1 _ hw) (C.2.2.2.2.2.2.1 _ hw2.1) (C.2.2.2.2.2.2.1 _ hw2.2.1) (C.2.2.2.2.2.2.1 _ hw2.2.2) C.2.2.2.2.2.2.2.1 hP (dh_W_D C.2.2.2.2.2.2.2.2.2 h) hS i j 0 0 (dh_W_at hi) (dh_W_at hj) rfl rfl rfl h1 h2 h3 h4 h5 (fun _ _ => rfl) (by show 1 ≤ M.2.2.2.2; exact hM) (by rw [hc]; show _ ≤ 36 * M.2.2.2.2; omega) hd (fun H1 locs1 hP1 hD1 hS1 => ?_)
  rw [dh_W_set (h' := dh_c h i j sp.toNatClampNeg dp.toNatClampNeg n.toNatClampNeg) hj (by show _ = (.inl (G.2.2.2 0, n1, .inl (dh_c h i j sp.toNatClampNeg dp.toNatClampNeg n.toNatClampNeg j)) : va_E); rw [dh_c_i]) (fun q hq => dh_c_n hq)] at hP1
  exact k p e s m args below meth c H1 locs1 ls C hP1 hS1 hl
theorem a_max {ix : Nat} {x y : Int32} (hd : decode M.2.1 pc = .ok (.invokestatic ix, 3)) (hw : Cond.methodLink M.1.cls ix Lib.Math.max.name ∈ dh_cw) (hw2 : Cond.static Lib.Math.max.name ∈ dh_cw ∧ Cond.initialized "java/lang/Math" ∈ dh_cw ∧ Cond.code Lib.Math.max.name Lib.Math.max.code 2 (some .int) ∈ dh_cw) (hM : 1 ≤ M.2.2.2.2) (hst : (st.map fun v => v.category).sum + 13 ≤ 36) (k : dh_J G M (pc + 3) lv (.int (if x < y then y else x) :: st) h Q) : dh_J G M pc lv (.int y :: .int x :: st) h Q := by
  intro p e s m args below meth c H locs ls C hP hS hl
  have hc : ((st.map (dh_cv G.2.2.1)).map fun v => v.category) = (st.map fun v => v.category) := by
    rw [List.map_map]
    exact List.map_congr_left (fun v _ => dh_cv_cat _ v)
  exact va_mmax C.1 C.2.1 (C.2.2.1.trans hl.1.symm) C.2.2.2.2.2.1 (C.2.2.2.2.2.2.1 _ hw) (C.2.2.2.2.2.2.1 _ hw2.1) (C.2.2.2.2.2.2.1 _ hw2.2.1) (C.2.2.2.2.2.2.1 _ hw2.2.2) (by show 1 ≤ M.2.2.2.2; exact hM) (by rw [hc]; show _ ≤ 36 * M.2.2.2.2; omega) (Nat.zero_le _) (Nat.zero_le _) hd (k p e s m args below meth c H locs ls C hP hS hl)
theorem a_min {ix : Nat} {x y : Int32} (hd : decode M.2.1 pc = .ok (.invokestatic ix, 3)) (hw : Cond.methodLink M.1.cls ix Lib.Math.min.name ∈ dh_cw) (hw2 : Cond.static Lib.Math.min.name ∈ dh_cw ∧ Cond.initialized "java/lang/Math" ∈ dh_cw ∧ Cond.code Lib.Math.min.name Lib.Math.min.code 2 (some .int) ∈ dh_cw) (hM : 1 ≤ M.2.2.2.2) (hst : (st.map fun v => v.category).sum + 13 ≤ 36) (k : dh_J G M (pc + 3) lv (.int (if y < x then y else x) :: st) h Q) : dh_J G M pc lv (.int y :: .int x :: st) h Q := by
  intro p e s m args below meth c H locs ls C hP hS hl
  have hc : ((st.map (dh_cv G.2.2.1)).map fun v => v.category) = (st.map fun v => v.category) := by
    rw [List.map_map]
    exact List.map_congr_left (fun v _ => dh_cv_cat _ v)
  exact va_mmin C.1 C.2.1 (C.2.2.1.trans hl.1.symm) C.2.2.2.2.2.1 (C.2.2.2.2.2.2.1 _ hw) (C.2.2.2.2.2.2.1 _ hw2.1) (C.2.2.2.2.2.2.1 _ hw2.2.1) (C.2.2.2.2.2.2.1 _ hw2.2.2) (by show 1 ≤ M.2.2.2.2; exact hM) (by rw [hc]; show _ ≤ 36 * M.2.2.2.2; omega) (Nat.zero_le _) (Nat.zero_le _) hd (k p e s m args below meth c H locs ls C hP hS hl)
-- ends
theorem a_iret {x : Int32} (hd : decode M.2.1 pc = .ok (.ireturn, 1)) (hr : M.2.2.2.1 = some .int) (k : Q (some (.int x)) h) : dh_J G M pc lv [.int x] h Q := by
  intro p e s m args below meth c H locs ls C hP hS hl
  exact W.iret C.1 C.2.1 (C.2.2.2.1.trans hr) (fun t ht _ => ⟨⟨some (.int x), h, rfl, k, by rw [ht]; exact hP⟩, hS.F ht⟩) hS.2.2 hd C.2.2.2.2.1
theorem a_zret {x : Int32} (hd : decode M.2.1 pc = .ok (.ireturn, 1)) (hr : M.2.2.2.1 = some .boolean) (hn : narrow .boolean (.int x) = .int x) (k : Q (some (.int x)) h) : dh_J G M pc lv [.int x] h Q := by
  intro p e s m args below meth c H locs ls C hP hS hl
  exact W.zret C.1 C.2.1 (C.2.2.2.1.trans hr) hn (fun t ht _ => ⟨⟨some (.int x), h, rfl, k, by rw [ht]; exact hP⟩, hS.F ht⟩) hS.2.2 hd C.2.2.2.2.1
theorem a_vret (hd : decode M.2.1 pc = .ok (.return_, 1)) (hr : M.2.2.2.1 = none) (k : Q none h) : dh_J G M pc lv [] h Q := by
  intro p e s m args below meth c H locs ls C hP hS hl
  exact W.vret C.1 C.2.1 (C.2.2.2.1.trans hr) (fun t ht _ => ⟨⟨none, h, rfl, k, by rw [ht]; exact hP⟩, hS.F ht⟩) hS.2.2 hd C.2.2.2.2.1
theorem a_aret {v : Value} {cn : String} (hd : decode M.2.1 pc = .ok (.areturn, 1)) (hr : M.2.2.2.1 = some (.object cn)) (hv : v = .null ∨ ∃ i, v = .ref i) (k : Q (some v) h) : dh_J G M pc lv [v] h Q := by
  intro p e s m args below meth c H locs ls C hP hS hl
  exact W.aret C.1 C.2.1 (C.2.2.2.1.trans hr) (Or.inl ⟨cn, rfl⟩) (by rcases hv with rfl | ⟨i, rfl⟩; exact Or.inl rfl; exact Or.inr ⟨_, rfl⟩) (fun t ht _ => ⟨⟨some v, h, rfl, k, by rw [ht]; exact hP⟩, hS.F ht⟩) hS.2.2 hd C.2.2.2.2.1
-- calls
/-- what method ix of class own is: Y, an instance's (inst) or static; callable from level d -/
def dh_Y (own : String) (ix d n : Nat) (inst : Bool) (Y : dh_M) : Prop :=
  (Cond.methodLink own ix Y.1 ∈ dh_cw ∨ ∃ host, Cond.methodLinkNest own ix Y.1 host ∈ dh_NW) ∧ Cond.code Y.1 Y.2.1 Y.2.2.1 Y.2.2.2.1 ∈ dh_cw ∧ Cond.initialized Y.1.cls ∈ dh_cw ∧ (Y.1.cls ≠ "java/lang/invoke/MethodHandle" ∧ Y.1.cls ≠ "java/lang/invoke/VarHandle") ∧ (parseMethodDescriptor Y.1.desc).map (fun d => d.parameters.length) = some n ∧ Y.2.2.2.2 + 1 ≤ d ∧ Y.2.2.1 ≤ 17 ∧
  (if inst then Cond.instanceMethod Y.1 ∈ dh_cw ∧ Cond.selects Y.1.cls Y.1 Y.1 ∈ dh_cw else Cond.static Y.1 ∈ dh_cw)
theorem dh_good {args : Array Value} {s : State} (hts : ∀ w ∈ dh_cw, w.before args s = true) {Y : dh_M} (hc : Cond.code Y.1 Y.2.1 Y.2.2.1 Y.2.2.2.1 ∈ dh_cw) : ∀ w ∈ dh_ws Y, ∀ (a' : Array Value) (U : State), s.WarmedH U.vm → w.before a' U = true := by
  have key : ∀ w ∈ dh_cw, ∀ (a' : Array Value) (U : State), s.WarmedH U.vm → w.before a' U = true := fun w hw a' U hW => word_at hW (good_of_word (List.mem_filter.mp hw).2) (hts w hw)
  intro w hw
  rcases List.mem_cons.mp hw with rfl | hw
  · exact key _ hc
  · exact key _ hw
theorem dh_blind {G : dh_G} {as : List Value} {h : dh_H} : FrameBlind (va_Pc (as.map (dh_cv G.2.2.1)) (fun U => dh_World G h U)) := by
  rintro a U g mk ⟨h1, h2, h3, h4, h5⟩
  exact ⟨h1, h2, va_K.moved (u := U) (U := U.calling g mk a) (Vm.Alike.refl U.vm) h3, fun w hw => va_Nw.same (u := U) (U := U.calling g mk a) (dh_NW_on hw) rfl (h4 w hw), h5⟩
theorem dh_pre {G : dh_G} {M : dh_M} {p : Program} {s : State} {m : MethodId} {args : Array Value} {meth : Method} {c : Code} {H : Heap} {h : dh_H} {as : List Value} (C : dh_X G M p s m args meth c) (hP : va_P G.2.1 vwCl (dh_W G h) H) : ∀ U : State, U.heap = H → s.WarmedH U.vm → va_Pc (as.map (dh_cv G.2.2.1)) (fun U => dh_World G h U) (as.map (dh_cv G.2.2.1)).toArray U :=
  fun U hU hW => ⟨rfl, by rw [hU]; exact hP, va_K.moved hW.alike C.2.2.2.2.2.2.2.1, dh_NW_warm hW C.2.2.2.2.2.2.2.2.1, C.2.2.2.2.2.2.2.2.2⟩
theorem dh_go {p : Program} {e : Env} {s : State} {m : MethodId} {args : Array Value} {below : List Frame} {meth : Method} {c : Code} {H : Heap} {locs : List Loc} {ls : Array Slot} {st0 : List Value} {a : Array Value} (C : dh_X G M p s m args meth c) (hS : va_S (dh_A G) s.heap H locs) (hl : lv_has ls M.2.2.1 (dh_lv G.2.2.1 0 lv))
    (hr : va_Run p G.1 e (dh_R M) s m args below meth c H locs 0 0 0 0 (F0 m pc ls st0) (st.map (dh_cv G.2.2.1)) (dh_Q G (fun v h1 => dh_J G M (pc + 3) lv (v.toList ++ st) h1 Q) a) (dh_A G)) :
    W p G.1 e (dh_R M) s m args below meth c H locs 0 0 (MQ below (dh_Q G Q) args s 0 0 (dh_A G)) (F0 m pc ls st0) := by
  intro T hT X
  obtain ⟨v, s0, t, T', L, h0, X', hL, e1, e2, ⟨⟨v', h', hv, hq, hP'⟩, hz, hk⟩, stp⟩ := hr T hT X
  have hv' : v = v'.map (dh_cv G.2.2.1) := by cases hv; rfl
  subst hv'
  rw [h0] at hz hk
  have e3 : (v'.map (dh_cv G.2.2.1)).toList ++ st.map (dh_cv G.2.2.1) = (v'.toList ++ st).map (dh_cv G.2.2.1) := by cases v' <;> simp
  have k2 := hq p e s m args below meth c T'.heap (locs ++ L) ls C (by rw [e1]; exact hP') ⟨Nat.le_trans hS.1 (by rw [e1]; exact hz), fun q g1 g2 => by rw [e1, hk q (Nat.lt_of_lt_of_le g1 hS.1) g2]; exact hS.2.1 q g1 g2, fun q hq => by
      rcases List.mem_append.mp hq with g | g
      · exact hS.2.2 q g
      · exact hL q g⟩ hl
  obtain ⟨t2, a1, b1⟩ := k2 T' rfl X'
  refine ⟨t2, stp t2 ?_, b1⟩
  rw [← e3] at a1
  exact a1
theorem a_callV {ix n ci b N : Nat} {T : u_T} {Y : dh_M} {fl : List (Option Nat)} (As : List Value) (hd : decode M.2.1 pc = .ok (.invokevirtual ix, 3)) (hY : dh_Y M.1.cls ix M.2.2.2.2 n true Y) (hn : As.length = n) (ho : dh_LAY[b]? = some (.inl (ci, fl))) (hci : vwCl[ci]? = some (Y.1.cls, T, N)) (hst : (st.map fun v => v.category).sum ≤ 8)
    (k : dh_C G Y (.ref b :: As) h (fun v h1 => dh_J G M (pc + 3) lv (v.toList ++ st) h1 Q)) : dh_J G M pc lv (As.reverse ++ .ref b :: st) h Q := by
  intro p e s m args below meth c H locs ls C hP hS hl
  obtain ⟨y1, y2, y3, y4, y5, y6, y7, y8⟩ := hY
  have hts := C.2.2.2.2.2.2.1
  have hc : ((st.map (dh_cv G.2.2.1)).map fun v => v.category) = (st.map fun v => v.category) := by
    rw [List.map_map]
    exact List.map_congr_left (fun v _ => dh_cv_cat _ v)
  have hstk : (As.reverse ++ .ref b :: st).map (dh_cv G.2.2.1) = (As.map (dh_cv G.2.2.1)).reverse ++ .ref (G.2.2.1 b) :: st.map (dh_cv G.2.2.1) := by simp [dh_cv]
  rw [hstk]
  have hlen : ∀ sig, parseMethodDescriptor Y.1.desc = some sig → n = sig.parameters.length := fun sig g => by rw [g] at y5; exact (Option.some.inj y5).symm
  have hrc := va_recv (C.2.2.2.2.2.2.2.1) hP hci (dh_W_at ho)
  have hR : (dh_R Y).frames + 1 ≤ (dh_R M).frames := y6
  have hRl : 8 + (Y.2.2.1 + 11) + (dh_R Y).locals ≤ (dh_R M).locals := by show 8 + (Y.2.2.1 + 11) + 36 * Y.2.2.2.2 ≤ 36 * M.2.2.2.2; omega
  rcases y1 with y1 | ⟨host, y1⟩
  · exact dh_go C hS hl (va_runV (As := As.map (dh_cv G.2.2.1)) (b := G.2.2.1 b) (C := Y.1.cls) (n := n) (bytes := Y.2.1) (maxL := Y.2.2.1) (ret := Y.2.2.2.1) ⟨C.1, C.2.1, C.2.2.1, C.2.2.2.2.2.1, hts⟩ k ⟨⟨rfl, rfl, hR, hRl, dh_good hts y2, List.mem_cons_self, hts _ y2, hts _ y3, y4, hlen, hts _ y1⟩, hts _ y8.1, hts _ y8.2⟩ ⟨dh_blind, hrc, dh_pre C hP⟩ rfl (by simpa using hn) hl.1 rfl (by rw [hc]; show 2 * 0 + _ ≤ 8; omega) hd ⟨Nat.zero_le _, Nat.zero_le _⟩)
  · exact dh_go C hS hl (va_runVN (As := As.map (dh_cv G.2.2.1)) (b := G.2.2.1 b) (C := Y.1.cls) (n := n) (bytes := Y.2.1) (maxL := Y.2.2.1) (ret := Y.2.2.2.1) ⟨C.1, C.2.1, C.2.2.1, C.2.2.2.2.2.1, hts⟩ k ⟨⟨⟨rfl, rfl, hR, hRl, dh_good hts y2, List.mem_cons_self⟩, hts _ y2, hts _ y3, y4, hlen, (C.2.2.2.2.2.2.2.2.1 _ y1).use rfl⟩, hts _ y8.1, hts _ y8.2⟩ ⟨dh_blind, hrc, dh_pre C hP⟩ rfl (by simpa using hn) hl.1 rfl (by rw [hc]; show 2 * 0 + _ ≤ 8; omega) hd ⟨Nat.zero_le _, Nat.zero_le _⟩)
theorem a_callS {ix n : Nat} {Y : dh_M} (As : List Value) (hd : decode M.2.1 pc = .ok (.invokestatic ix, 3)) (hY : dh_Y M.1.cls ix M.2.2.2.2 n false Y) (hn : As.length = n) (hst : (st.map fun v => v.category).sum ≤ 8)
    (k : dh_C G Y As h (fun v h1 => dh_J G M (pc + 3) lv (v.toList ++ st) h1 Q)) : dh_J G M pc lv (As.reverse ++ st) h Q := by
  intro p e s m args below meth c H locs ls C hP hS hl
  obtain ⟨y1, y2, y3, y4, y5, y6, y7, y8⟩ := hY
  have hts := C.2.2.2.2.2.2.1
  have hc : ((st.map (dh_cv G.2.2.1)).map fun v => v.category) = (st.map fun v => v.category) := by
    rw [List.map_map]
    exact List.map_congr_left (fun v _ => dh_cv_cat _ v)
  have hstk : (As.reverse ++ st).map (dh_cv G.2.2.1) = (As.map (dh_cv G.2.2.1)).reverse ++ st.map (dh_cv G.2.2.1) := by simp
  rw [hstk]
  have hlen : ∀ sig, parseMethodDescriptor Y.1.desc = some sig → n = sig.parameters.length := fun sig g => by rw [g] at y5; exact (Option.some.inj y5).symm
  have hR : (dh_R Y).frames + 1 ≤ (dh_R M).frames := y6
  have hRl : 8 + (Y.2.2.1 + 11) + (dh_R Y).locals ≤ (dh_R M).locals := by show 8 + (Y.2.2.1 + 11) + 36 * Y.2.2.2.2 ≤ 36 * M.2.2.2.2; omega
  rcases y1 with y1 | ⟨host, y1⟩
  · exact dh_go C hS hl (va_runS (As := As.map (dh_cv G.2.2.1)) (n := n) (bytes := Y.2.1) (maxL := Y.2.2.1) (ret := Y.2.2.2.1) ⟨C.1, C.2.1, C.2.2.1, C.2.2.2.2.2.1, hts⟩ k ⟨⟨rfl, rfl, hR, hRl, dh_good hts y2, List.mem_cons_self, hts _ y2, hts _ y3, y4, hlen, hts _ y1⟩, hts _ y8⟩ ⟨dh_blind, dh_pre C hP⟩ rfl (by simpa using hn) hl.1 rfl (by rw [hc]; show 2 * 0 + _ ≤ 8; omega) hd ⟨Nat.zero_le _, Nat.zero_le _⟩)
  · exact dh_go C hS hl (va_runSN (As := As.map (dh_cv G.2.2.1)) (n := n) (bytes := Y.2.1) (maxL := Y.2.2.1) (ret := Y.2.2.2.1) ⟨C.1, C.2.1, C.2.2.1, C.2.2.2.2.2.1, hts⟩ k ⟨⟨⟨rfl, rfl, hR, hRl, dh_good hts y2, List.mem_cons_self⟩, hts _ y2, hts _ y3, y4, hlen, (C.2.2.2.2.2.2.2.2.1 _ y1).use rfl⟩, hts _ y8, trivial⟩ ⟨dh_blind, dh_pre C hP⟩ rfl (by simpa using hn) hl.1 rfl (by rw [hc]; show 2 * 0 + _ ≤ 8; omega) hd ⟨Nat.zero_le _, Nat.zero_le _⟩)
theorem a_callV0 {ix ci b N : Nat} {T : u_T} {Y : dh_M} {fl : List (Option Nat)} (hd : decode M.2.1 pc = .ok (.invokevirtual ix, 3)) (hY : dh_Y M.1.cls ix M.2.2.2.2 0 true Y) (ho : dh_LAY[b]? = some (.inl (ci, fl))) (hci : vwCl[ci]? = some (Y.1.cls, T, N)) (hst : (st.map fun v => v.category).sum ≤ 8) (k : dh_C G Y [.ref b] h (fun v h1 => dh_J G M (pc + 3) lv (v.toList ++ st) h1 Q)) : dh_J G M pc lv (.ref b :: st) h Q := a_callV [] hd hY rfl ho hci hst k
theorem a_callV1 {ix ci b N : Nat} {T : u_T} {Y : dh_M} {fl : List (Option Nat)} {x1 : Value} (hd : decode M.2.1 pc = .ok (.invokevirtual ix, 3)) (hY : dh_Y M.1.cls ix M.2.2.2.2 1 true Y) (ho : dh_LAY[b]? = some (.inl (ci, fl))) (hci : vwCl[ci]? = some (Y.1.cls, T, N)) (hst : (st.map fun v => v.category).sum ≤ 8) (k : dh_C G Y [.ref b, x1] h (fun v h1 => dh_J G M (pc + 3) lv (v.toList ++ st) h1 Q)) : dh_J G M pc lv (x1 :: .ref b :: st) h Q := a_callV [x1] hd hY rfl ho hci hst k
theorem a_callV2 {ix ci b N : Nat} {T : u_T} {Y : dh_M} {fl : List (Option Nat)} {x1 x2 : Value} (hd : decode M.2.1 pc = .ok (.invokevirtual ix, 3)) (hY : dh_Y M.1.cls ix M.2.2.2.2 2 true Y) (ho : dh_LAY[b]? = some (.inl (ci, fl))) (hci : vwCl[ci]? = some (Y.1.cls, T, N)) (hst : (st.map fun v => v.category).sum ≤ 8) (k : dh_C G Y [.ref b, x1, x2] h (fun v h1 => dh_J G M (pc + 3) lv (v.toList ++ st) h1 Q)) : dh_J G M pc lv (x2 :: x1 :: .ref b :: st) h Q := a_callV [x1, x2] hd hY rfl ho hci hst k
theorem a_callV3 {ix ci b N : Nat} {T : u_T} {Y : dh_M} {fl : List (Option Nat)} {x1 x2 x3 : Value} (hd : decode M.2.1 pc = .ok (.invokevirtual ix, 3)) (hY : dh_Y M.1.cls ix M.2.2.2.2 3 true Y) (ho : dh_LAY[b]? = some (.inl (ci, fl))) (hci : vwCl[ci]? = some (Y.1.cls, T, N)) (hst : (st.map fun v => v.category).sum ≤ 8) (k : dh_C G Y [.ref b, x1, x2, x3] h (fun v h1 => dh_J G M (pc + 3) lv (v.toList ++ st) h1 Q)) : dh_J G M pc lv (x3 :: x2 :: x1 :: .ref b :: st) h Q := a_callV [x1, x2, x3] hd hY rfl ho hci hst k
theorem a_callV4 {ix ci b N : Nat} {T : u_T} {Y : dh_M} {fl : List (Option Nat)} {x1 x2 x3 x4 : Value} (hd : decode M.2.1 pc = .ok (.invokevirtual ix, 3)) (hY : dh_Y M.1.cls ix M.2.2.2.2 4 true Y) (ho : dh_LAY[b]? = some (.inl (ci, fl))) (hci : vwCl[ci]? = some (Y.1.cls, T, N)) (hst : (st.map fun v => v.category).sum ≤ 8) (k : dh_C G Y [.ref b, x1, x2, x3, x4] h (fun v h1 => dh_J G M (pc + 3) lv (v.toList ++ st) h1 Q)) : dh_J G M pc lv (x4 :: x3 :: x2 :: x1 :: .ref b :: st) h Q := a_callV [x1, x2, x3, x4] hd hY rfl ho hci hst k
theorem a_callS1 {ix : Nat} {Y : dh_M} {x1 : Value} (hd : decode M.2.1 pc = .ok (.invokestatic ix, 3)) (hY : dh_Y M.1.cls ix M.2.2.2.2 1 false Y) (hst : (st.map fun v => v.category).sum ≤ 8) (k : dh_C G Y [x1] h (fun v h1 => dh_J G M (pc + 3) lv (v.toList ++ st) h1 Q)) : dh_J G M pc lv (x1 :: st) h Q := a_callS [x1] hd hY rfl hst k
theorem a_callS2 {ix : Nat} {Y : dh_M} {x1 x2 : Value} (hd : decode M.2.1 pc = .ok (.invokestatic ix, 3)) (hY : dh_Y M.1.cls ix M.2.2.2.2 2 false Y) (hst : (st.map fun v => v.category).sum ≤ 8) (k : dh_C G Y [x1, x2] h (fun v h1 => dh_J G M (pc + 3) lv (v.toList ++ st) h1 Q)) : dh_J G M pc lv (x2 :: x1 :: st) h Q := a_callS [x1, x2] hd hY rfl hst k
theorem a_callS3 {ix : Nat} {Y : dh_M} {x1 x2 x3 : Value} (hd : decode M.2.1 pc = .ok (.invokestatic ix, 3)) (hY : dh_Y M.1.cls ix M.2.2.2.2 3 false Y) (hst : (st.map fun v => v.category).sum ≤ 8) (k : dh_C G Y [x1, x2, x3] h (fun v h1 => dh_J G M (pc + 3) lv (v.toList ++ st) h1 Q)) : dh_J G M pc lv (x3 :: x2 :: x1 :: st) h Q := a_callS [x1, x2, x3] hd hY rfl hst k
theorem a_callS5 {ix : Nat} {Y : dh_M} {x1 x2 x3 x4 x5 : Value} (hd : decode M.2.1 pc = .ok (.invokestatic ix, 3)) (hY : dh_Y M.1.cls ix M.2.2.2.2 5 false Y) (hst : (st.map fun v => v.category).sum ≤ 8) (k : dh_C G Y [x1, x2, x3, x4, x5] h (fun v h1 => dh_J G M (pc + 3) lv (v.toList ++ st) h1 Q)) : dh_J G M pc lv (x5 :: x4 :: x3 :: x2 :: x1 :: st) h Q := a_callS [x1, x2, x3, x4, x5] hd hY rfl hst k
theorem dh_drop (i : Nat) (k : dh_J G M pc (lv.set i none) st h Q) : dh_J G M pc lv st h Q := by
  intro p e s m args below meth c H locs ls C hP hS hl
  refine k p e s m args below meth c H locs ls C hP hS ⟨hl.1, hl.2.1, fun q hq => hl.2.2 q ?_⟩
  obtain ⟨j, v, h1, h2⟩ := (dh_lv_mem G.2.2.1 _ 0 q).mp hq
  refine (dh_lv_mem G.2.2.1 _ 0 q).mpr ⟨j, v, ?_, h2⟩
  by_cases hj : j = i
  · subst hj
    have hlt := (List.getElem?_eq_some_iff.mp h1).1
    rw [List.length_set] at hlt
    rw [List.getElem?_set_self hlt] at h1
    cases h1
  · rwa [List.getElem?_set_ne (Ne.symm hj)] at h1
theorem dh_Y_up {own : String} {ix d d' n : Nat} {inst : Bool} {Y : dh_M} (hY : dh_Y own ix d n inst Y) (hd : d ≤ d') : dh_Y own ix d' n inst Y := by
  obtain ⟨y1, y2, y3, y4, y5, y6, y7, y8⟩ := hY
  exact ⟨y1, y2, y3, y4, y5, Nat.le_trans y6 hd, y7, y8⟩
theorem dh_tab {x : Int32} {n : Nat} (hn : n < 2 ^ 31) (hx : ¬ (x.toInt < 0 ∨ (n : Int) < x.toInt)) : ∃ j : Nat, j ≤ n ∧ x = nI j := by
  have h0 : ¬ x < 0 := by
    rw [Int32.lt_iff_toInt_lt, Int32.toInt_zero]
    omega
  obtain ⟨j, hj, e⟩ := nI_of h0
  refine ⟨j, ?_, e⟩
  have := nI_toInt hj
  rw [← e] at this
  omega
end DHR
