/-! constructors: a world that grows; a row an instruction -/
def kAO (G : dh_G) (U : State) : Prop := ∃ (kA kC : Class) (c1 : ClassId), U.vm.classes[G.2.2.2 3]? = some kA ∧ kA.kind = .array (G.2.2.2 0) (.array .int) ∧ U.vm.classes[G.2.2.2 0]? = some kC ∧ kC.kind = .array c1 .int
theorem kAO_mv {G : dh_G} {u U : State} (hvm : u.vm.Alike U.vm) (h : kAO G u) : kAO G U := by
  obtain ⟨kA, kC, c1, h1, h2, h3, h4⟩ := h
  obtain ⟨kA', a1, a2⟩ := hvm.2.2 _ _ h1
  obtain ⟨kC', b1, b2⟩ := hvm.2.2 _ _ h3
  exact ⟨kA', kC', c1, a1, by rw [a2]; exact h2, b1, by rw [b2]; exact h4⟩
def kW (G : dh_G) (U : State) : Prop := va_K G.2.1 vwCl (dh_tys G) U ∧ (∀ w ∈ dh_NW, va_Nw w U) ∧ kAO G U ∧ va_AO "DummyHunt$Image" U
theorem kW_warm {G : dh_G} {s U : State} (hW : s.WarmedH U.vm) (h : kW G s) : kW G U := ⟨va_K.moved hW.alike h.1, dh_NW_warm hW h.2.1, kAO_mv hW.alike h.2.2.1, h.2.2.2.moved hW.alike⟩
theorem kW_call {G : dh_G} {U : State} {g : JFrame} {mk : MethodId} {a : Array Value} (h : kW G U) : kW G (U.calling g mk a) :=
  ⟨va_K.moved (u := U) (U := U.calling g mk a) (Vm.Alike.refl U.vm) h.1, fun w hw => va_Nw.same (u := U) (U := U.calling g mk a) (dh_NW_on hw) rfl (h.2.1 w hw), kAO_mv (u := U) (U := U.calling g mk a) (Vm.Alike.refl U.vm) h.2.2.1, h.2.2.2.moved (u := U) (U := U.calling g mk a) (Vm.Alike.refl U.vm)⟩
def kR (M : dh_M) (nc ns : Nat) : Room := { frames := M.2.2.2.2, cells := nc, slots := ns, locals := 36 * M.2.2.2.2 }
def kX (G : dh_G) (M : dh_M) (p : Program) (s : State) (m : MethodId) (args : Array Value) (meth : Method) (c : Code) : Prop :=
  p.tables.exec = Jvm.exec ∧ c.code = M.2.1 ∧ c.maxLocals = M.2.2.1 ∧ meth.sig.returnType = M.2.2.2.1 ∧ meth.locks = false ∧ s.vm.findClass M.1.cls = some m.cls ∧ (∀ w ∈ dh_cw, w.before args s = true) ∧ kW G s ∧ meth.name = "<init>"
def kQ (G : dh_G) (A : Nat → Prop) (Q : va_W → Prop) : Array Value → State → Outcome → State → Prop := va_Qv Q (fun w1 t => va_P G.2.1 vwCl w1 t.heap ∧ va_D A w1) A
/-- constructor M, standing at pc with these locals, this stack, these cells (k made, of n slots), comes to its end with Q -/
def kJ (G : dh_G) (M : dh_M) (nc ns : Nat) (A : Nat → Prop) (pc : Nat) (lv : List (Nat × Value)) (st : List Value) (ws : va_W) (k n : Nat) (Q : va_W → Prop) : Prop :=
  ∀ (p : Program) (e : Env) (s : State) (m : MethodId) (args : Array Value) (below : List Frame) (meth : Method) (c : Code) (H : Heap) (locs : List Loc) (ls : Array Slot), kX G M p s m args meth c → (∀ q, s.heap.size ≤ q → A q) → va_P G.2.1 vwCl ws H → va_D A ws → va_S A s.heap H locs → lv_has ls M.2.2.1 lv →
    W p G.1 e (kR M nc ns) s m args below meth c H locs k n (MQ below (kQ G A Q) args s nc ns A) (F0 m pc ls st)
/-- constructor M, called with these arguments, with these cells, makes nc cells of ns slots, and ends with Q -/
def kC (G : dh_G) (M : dh_M) (nc ns : Nat) (as : List Value) (w0 : va_W) (Q : va_W → Prop) : Prop :=
  ∀ sz : Nat, Met G.1 M.1 (dh_ws M) (kR M nc ns) (va_Pc as (fun U => U.heap.size = sz ∧ va_P G.2.1 vwCl w0 U.heap ∧ kW G U ∧ va_D (fun _ => True) w0)) (kQ G (va_A w0 sz) Q) nc ns (va_A w0 sz)
theorem kC_of {G : dh_G} {M : dh_M} {nc ns : Nat} {as : List Value} {w0 : va_W} {Q : va_W → Prop} (hy : plainName M.1.cls = true) (hi : M.1.name = "<init>") (hn : (lg_sl as).length ≤ M.2.2.1) (k : ∀ A : Nat → Prop, kJ G M nc ns A 0 (lv_args 0 as) [] w0 0 0 Q) : kC G M nc ns as w0 Q := by
  intro sz
  refine Met.ofW (cc := M.2.1) (maxL := M.2.2.1) (ret := M.2.2.2.1) hy rfl ?_
  intro p e s m args below meth c s₁ B hml hv
  obtain ⟨rfl, hsz, hP, hW, hD0⟩ := hv
  have hts := atoms_spec (ws := dh_ws M) B.pre
  have hl := lv_entry as hn
  rw [lg_entry_eq]
  subst hsz
  have hin := (name_of_methodNamed B.named B.method).1
  exact k (va_A w0 s.heap.size) p e s m _ below meth c s.heap [] _ ⟨B.exec, B.bytes, hml, B.returns, B.notSynchronized, findClass_of_methodNamed B.named, fun w hw => hts w (List.mem_cons_of_mem _ hw), hW, hin.trans hi⟩ (fun q h => Or.inr h) hP hD0.self va_S.rf hl
theorem arrV_cg {cA : ClassId} {N : Nat} {f g : Nat → Value} (h : ∀ j, j < N → f j = g j) : arrV cA N f = arrV cA N g := by
  unfold arrV
  congr 1
  apply Array.ext
  · simp
  · intro i h1 h2
    simp at h1
    simp [h i h1]
section KR
variable {G : dh_G} {M : dh_M} {nc ns : Nat} {A : Nat → Prop} {pc : Nat} {lv : List (Nat × Value)} {st : List Value} {ws : va_W} {k n : Nat} {Q : va_W → Prop}
theorem k_aload {i : Fin 4} {a : Nat} (hd : decode M.2.1 pc = .ok (.aload_n i, 1)) (hv : (i.val, .ref a) ∈ lv) (kk : kJ G M nc ns A (pc + 1) lv (.ref a :: st) ws k n Q) : kJ G M nc ns A pc lv st ws k n Q := by
  intro p e s m args below meth c H locs ls C hA hP hD hS hl
  exact lv_aload_n C.1 C.2.1 hd rfl (hl.2.2 _ hv) (kk p e s m args below meth c H locs ls C hA hP hD hS hl)
theorem k_iload {i : Fin 4} {x : Int32} (hd : decode M.2.1 pc = .ok (.iload_n i, 1)) (hv : (i.val, .int x) ∈ lv) (kk : kJ G M nc ns A (pc + 1) lv (.int x :: st) ws k n Q) : kJ G M nc ns A pc lv st ws k n Q := by
  intro p e s m args below meth c H locs ls C hA hP hD hS hl
  exact lv_iload_n C.1 C.2.1 hd rfl (hl.2.2 _ hv) (kk p e s m args below meth c H locs ls C hA hP hD hS hl)
theorem k_iconst {z : Int} (v : Int32) (hd : decode M.2.1 pc = .ok (.iconst z, 1)) (hv : Int32.ofInt z = v) (kk : kJ G M nc ns A (pc + 1) lv (.int v :: st) ws k n Q) : kJ G M nc ns A pc lv st ws k n Q := by
  intro p e s m args below meth c H locs ls C hA hP hD hS hl
  exact lv_iconst C.1 C.2.1 hd hv (kk p e s m args below meth c H locs ls C hA hP hD hS hl)
theorem k_bipush {z : Int} (v : Int32) (hd : decode M.2.1 pc = .ok (.bipush z, 2)) (hv : (Int8.ofInt z).toInt32 = v) (kk : kJ G M nc ns A (pc + 2) lv (.int v :: st) ws k n Q) : kJ G M nc ns A pc lv st ws k n Q := by
  intro p e s m args below meth c H locs ls C hA hP hD hS hl
  exact lv_bipush C.1 C.2.1 hd hv (kk p e s m args below meth c H locs ls C hA hP hD hS hl)
theorem k_sipush {z : Int} (v : Int32) (hd : decode M.2.1 pc = .ok (.sipush z, 3)) (hv : (Int16.ofInt z).toInt32 = v) (kk : kJ G M nc ns A (pc + 3) lv (.int v :: st) ws k n Q) : kJ G M nc ns A pc lv st ws k n Q := by
  intro p e s m args below meth c H locs ls C hA hP hD hS hl
  exact lv_sipush C.1 C.2.1 hd hv (kk p e s m args below meth c H locs ls C hA hP hD hS hl)
theorem k_dup {a : Nat} (hd : decode M.2.1 pc = .ok (.dup, 1)) (kk : kJ G M nc ns A (pc + 1) lv (.ref a :: .ref a :: st) ws k n Q) : kJ G M nc ns A pc lv (.ref a :: st) ws k n Q := by
  intro p e s m args below meth c H locs ls C hA hP hD hS hl
  exact lv_dup C.1 C.2.1 hd rfl (kk p e s m args below meth c H locs ls C hA hP hD hS hl)
theorem k_istore {i : Fin 4} {x : Int32} (lv' : List (Nat × Value)) (hd : decode M.2.1 pc = .ok (.istore_n i, 1)) (hi : i.val < M.2.2.1) (hl' : (i.val, Value.int x) :: lv.filter (fun q => !(q.1 == i.val) && !(q.1 + 1 == i.val && q.2.category == 2)) = lv') (kk : kJ G M nc ns A (pc + 1) lv' st ws k n Q) : kJ G M nc ns A pc lv (.int x :: st) ws k n Q := by
  intro p e s m args below meth c H locs ls C hA hP hD hS hl
  exact lv_istore_n C.1 C.2.1 hd rfl hl hi hl' (fun ls' h' => kk p e s m args below meth c H locs ls' C hA hP hD hS h')
theorem k_iinc {i : Nat} {z : Int} {x : Int32} (v : Int32) (lv' : List (Nat × Value)) (j : Nat) (hd : decode M.2.1 pc = .ok (.iinc i z, 3)) (hj : lv[j]? = some (i, .int x)) (hx : x + Int32.ofInt z = v) (hi : i < M.2.2.1) (hl' : (i, Value.int v) :: lv.filter (fun q => !(q.1 == i) && !(q.1 + 1 == i && q.2.category == 2)) = lv') (kk : kJ G M nc ns A (pc + 3) lv' st ws k n Q) : kJ G M nc ns A pc lv st ws k n Q := by
  intro p e s m args below meth c H locs ls C hA hP hD hS hl
  exact lv_iinc C.1 C.2.1 hd hl hj hx hi hl' (fun ls' h' => kk p e s m args below meth c H locs ls' C hA hP hD hS h')
theorem k_icmp_ge {x y : Int32} {off : Int} (tgt : Nat) (hd : decode M.2.1 pc = .ok (.if_icmp .ge off, 3)) (ht : (pc : Int) + off = (tgt : Int)) (kt : y ≤ x → kJ G M nc ns A tgt lv st ws k n Q) (kf : ¬ y ≤ x → kJ G M nc ns A (pc + 3) lv st ws k n Q) : kJ G M nc ns A pc lv (.int y :: .int x :: st) ws k n Q := by
  intro p e s m args below meth c H locs ls C hA hP hD hS hl
  exact lv_icmp_ge C.1 C.2.1 hd ht (fun q => kt q p e s m args below meth c H locs ls C hA hP hD hS hl) (fun q => kf q p e s m args below meth c H locs ls C hA hP hD hS hl)
theorem k_goto {off : Int} (tgt : Nat) (hd : decode M.2.1 pc = .ok (.goto off, 3)) (ht : (pc : Int) + off = (tgt : Int)) (kk : kJ G M nc ns A tgt lv st ws k n Q) : kJ G M nc ns A pc lv st ws k n Q := by
  intro p e s m args below meth c H locs ls C hA hP hD hS hl
  exact lv_goto C.1 C.2.1 hd ht (kk p e s m args below meth c H locs ls C hA hP hD hS hl)
theorem k_obj {a ix : Nat} (hd : decode M.2.1 pc = .ok (.invokespecial ix, 3)) (h1 : Cond.methodLink M.1.cls ix Lib.objectInit ∈ dh_cw) (h2 : Cond.instanceMethod Lib.objectInit ∈ dh_cw) (h3 : Cond.code Lib.objectInit ⟨#[0xb1]⟩ 1 none ∈ dh_cw) (hM : 1 ≤ M.2.2.2.2) (kk : kJ G M nc ns A (pc + 3) lv [] ws k n Q) : kJ G M nc ns A pc lv [.ref a] ws k n Q := by
  intro p e s m args below meth c H locs ls C hA hP hD hS hl
  have hts := C.2.2.2.2.2.2.1
  refine W.objInit C.1 C.2.1 C.2.2.2.2.2.1 (hts _ h1) (hts _ h2) (hts _ h3) rfl (hl.1.trans C.2.2.1.symm) rfl hd hM ?_ (kk p e s m args below meth c H locs ls C hA hP hD hS hl)
  show 0 + 0 + 12 ≤ 36 * M.2.2.2.2
  omega
theorem k_ret (hd : decode M.2.1 pc = .ok (.return_, 1)) (hr : M.2.2.2.1 = none) (hk : k ≤ nc) (hn : n ≤ ns) (hq : Q ws) : kJ G M nc ns A pc lv [] ws k n Q := by
  intro p e s m args below meth c H locs ls C hA hP hD hS hl
  refine W.widen hk hn ?_
  exact W.vret C.1 C.2.1 (C.2.2.2.1.trans hr) (fun t ht _ => ⟨⟨ws, rfl, hq, by rw [ht]; exact hP, hD⟩, hS.F ht⟩) hS.2.2 hd C.2.2.2.2.1
theorem k_newI {N : Nat} (ws' : Nat → va_W) (hd : decode M.2.1 pc = .ok (.newarray .int, 2)) (hw : Cond.arrayClass .int ∈ dh_cw) (hN : N ≤ 1000) (hc : k + 1 ≤ nc) (hs : n + N ≤ ns) (hws : ∀ q, ws ++ [(q, .inl (G.2.2.2 0, N, .inl (fun _ => 0)))] = ws' q) (kk : ∀ q, kJ G M nc ns A (pc + 2) lv (.ref q :: st) (ws' q) (k + 1) (n + N) Q) : kJ G M nc ns A pc lv (.int (nI N) :: st) ws k n Q := by
  intro p e s m args below meth c H locs ls C hA hP hD hS hl
  have hK := C.2.2.2.2.2.2.2.1.1
  refine va_newa (a0 := (N, .inl (fun _ => 0))) C.1 C.2.1 (atype := .int) (C.2.2.2.2.2.2.1 _ hw) rfl hK hP hD hS hA (fun cA => rfl) (nI_pos (by omega)) (nI_clamp (by omega)) (by show N * 4 ≤ _; omega) hc hs hd (fun q cA H1 hK1 hP1 hD1 hS1 => ?_)
  have e1 : cA = G.2.2.2 0 := by
    have g1 : s.vm.findClass ("[" ++ FieldType.int.toString) = some cA := (hK1.2 4 (cA, .int) rfl).2
    have g2 : s.vm.findClass ("[" ++ FieldType.int.toString) = some (G.2.2.2 0) := (hK.2 0 (G.2.2.2 0, .int) rfl).2
    exact Option.some.inj (g1.symm.trans g2)
  subst e1
  rw [hws q] at hP1 hD1
  exact kk q p e s m args below meth c H1 locs ls C hA hP1 hD1 hS1 hl
theorem k_newB {N : Nat} (ws' : Nat → va_W) (hd : decode M.2.1 pc = .ok (.newarray .boolean, 2)) (hw : Cond.arrayClass .boolean ∈ dh_cw) (hN : N ≤ 1000) (hc : k + 1 ≤ nc) (hs : n + N ≤ ns) (hws : ∀ q, ws ++ [(q, .inl (G.2.2.2 1, N, .inl (fun _ => 0)))] = ws' q) (kk : ∀ q, kJ G M nc ns A (pc + 2) lv (.ref q :: st) (ws' q) (k + 1) (n + N) Q) : kJ G M nc ns A pc lv (.int (nI N) :: st) ws k n Q := by
  intro p e s m args below meth c H locs ls C hA hP hD hS hl
  have hK := C.2.2.2.2.2.2.2.1.1
  refine va_newa (a0 := (N, .inl (fun _ => 0))) C.1 C.2.1 (atype := .boolean) (C.2.2.2.2.2.2.1 _ hw) rfl hK hP hD hS hA (fun cA => rfl) (nI_pos (by omega)) (nI_clamp (by omega)) (by show N * 1 ≤ _; omega) hc hs hd (fun q cA H1 hK1 hP1 hD1 hS1 => ?_)
  have e1 : cA = G.2.2.2 1 := by
    have g1 : s.vm.findClass ("[" ++ FieldType.boolean.toString) = some cA := (hK1.2 4 (cA, .boolean) rfl).2
    have g2 : s.vm.findClass ("[" ++ FieldType.boolean.toString) = some (G.2.2.2 1) := (hK.2 1 (G.2.2.2 1, .boolean) rfl).2
    exact Option.some.inj (g1.symm.trans g2)
  subst e1
  rw [hws q] at hP1 hD1
  exact kk q p e s m args below meth c H1 locs ls C hA hP1 hD1 hS1 hl
/-- what field k of the class is, by its entry ix in the class's own pool -/
def kF (own : String) (ix ci j : Nat) (fin : Bool) (ty : FieldType) : Prop :=
  ∃ (T : u_T) (N : Nat) (tf : Nat → FieldType), vwCl[ci]? = some (own, T, N) ∧ j < N ∧ (∀ w ∈ u_ws own T N, w ∈ dh_cw) ∧ (∀ k, k < N → parseFieldDescriptor (T k).2.2.1 = some (tf k)) ∧ (∀ a, a < N → ∀ b, b < N → a ≠ b → (T a).2.1 ≠ (T b).2.1) ∧ Cond.fieldLink own ix (T j).1 (T j).2.1 (T j).2.2.1 ∈ dh_cw ∧ (T j).1 = own ∧ (T j).2.2.2 = fin ∧ tf j = ty
theorem k_put {a ix ci j q0 : Nat} {fin : Bool} {ty : FieldType} {fs : List Value} {v : Value} (ws' : va_W) (hd : decode M.2.1 pc = .ok (.putfield ix, 3)) (hf : kF M.1.cls ix ci j fin ty) (he : ws[q0]? = some (a, .inr (ci, fs))) (hn : narrow ty v = v) (hfit : fits ty v = true) (hl0 : j < fs.length) (hws : ws.set q0 (a, .inr (ci, fs.set j v)) = ws') (kk : kJ G M nc ns A (pc + 3) lv st ws' k n Q) : kJ G M nc ns A pc lv (v :: .ref a :: st) ws k n Q := by
  intro p e s m args below meth c H locs ls C hA hP hD hS hl
  obtain ⟨T, N, tf, h1, h2, h3, h4, h5, h6, h7, h8, h9⟩ := hf
  have hK := C.2.2.2.2.2.2.2.1.1
  have hts := C.2.2.2.2.2.2.1
  subst hws
  cases fin with
  | true => exact va_putF C.1 C.2.1 hts h3 tf h4 h5 C.2.2.2.2.2.1 hK hP hD hS q0 he h1 j h2 (hts _ h6) (fun _ q => q) h8 C.2.2.2.2.2.2.2.2 h7 (by rw [h4 j h2, h9]) hn hfit hl0 hd (fun H1 locs1 hP1 hD1 hS1 => kk p e s m args below meth c H1 locs1 ls C hA hP1 hD1 hS1 hl)
  | false => exact va_put C.1 C.2.1 hts h3 tf h4 h5 C.2.2.2.2.2.1 hK hP hD hS q0 he h1 j h2 (hts _ h6) (fun _ q => q) h8 (by rw [h4 j h2, h9]) hn hfit hl0 hd (fun H1 locs1 hP1 hD1 hS1 => kk p e s m args below meth c H1 locs1 ls C hA hP1 hD1 hS1 hl)
theorem k_get {a ix ci j q0 : Nat} {fin : Bool} {ty : FieldType} {fs : List Value} {v : Value} (hd : decode M.2.1 pc = .ok (.getfield ix, 3)) (hf : kF M.1.cls ix ci j fin ty) (he : ws[q0]? = some (a, .inr (ci, fs))) (hv : fs[j]? = some v) (kk : kJ G M nc ns A (pc + 3) lv (v :: st) ws k n Q) : kJ G M nc ns A pc lv (.ref a :: st) ws k n Q := by
  intro p e s m args below meth c H locs ls C hA hP hD hS hl
  obtain ⟨T, N, tf, h1, h2, h3, h4, h5, h6, h7, h8, h9⟩ := hf
  have hts := C.2.2.2.2.2.2.1
  exact va_get C.1 C.2.1 hts h3 C.2.2.2.2.2.1 C.2.2.2.2.2.2.2.1.1 hP q0 he h1 j h2 (hts _ h6) (fun _ q => q) hv hd (kk p e s m args below meth c H locs ls C hA hP hD hS hl)
theorem k_new {ix ci N : Nat} {T : u_T} {CC : String} {fs : List Value} (ws' : Nat → va_W) (tf : Nat → FieldType) (hd : decode M.2.1 pc = .ok (.new ix, 3)) (hc : vwCl[ci]? = some (CC, T, N)) (hin : ∀ w ∈ u_ws CC T N, w ∈ dh_cw) (hty : ∀ k, k < N → parseFieldDescriptor (T k).2.2.1 = some (tf k)) (w1 : Cond.classLink M.1.cls ix CC ∈ dh_cw) (w2 : Cond.instantiable CC N ∈ dh_cw) (w3 : Cond.initialized CC ∈ dh_cw) (hfs : ∀ j, j < N → defaultValue (tf j) = vp_V fs j) (hc1 : k + 1 ≤ nc) (hs1 : n + N ≤ ns) (hws : ∀ q, ws ++ [(q, .inr (ci, fs))] = ws' q) (kk : ∀ q, kJ G M nc ns A (pc + 3) lv (.ref q :: st) (ws' q) (k + 1) (n + N) Q) : kJ G M nc ns A pc lv st ws k n Q := by
  intro p e s m args below meth c H locs ls C hA hP hD hS hl
  have hts := C.2.2.2.2.2.2.1
  refine va_new C.1 C.2.1 hts hin tf hty C.2.2.2.2.2.1 (hts _ w1) (hts _ w2) (hts _ w3) C.2.2.2.2.2.2.2.1.1 hP hD hS hA hc hfs hc1 hs1 hd (fun q H1 hP1 hD1 hS1 => ?_)
  rw [hws q] at hP1 hD1
  exact kk q p e s m args below meth c H1 locs ls C hA hP1 hD1 hS1 hl
theorem k_newq {ix N : Nat} (ws' : Nat → va_W) (hd : decode M.2.1 pc = .ok (.anewarray ix, 3)) (w1 : Cond.classLink M.1.cls ix "DummyHunt$Image" ∈ dh_cw) (hN : N ≤ 1000) (hc1 : k + 1 ≤ nc) (hs1 : n + N ≤ ns) (hws : ∀ q, ws ++ [(q, .inl (G.2.2.2 2, N, .inr (.inr (.inr (.inr (fun _ => none))))))] = ws' q) (kk : ∀ q, kJ G M nc ns A (pc + 3) lv (.ref q :: st) (ws' q) (k + 1) (n + N) Q) : kJ G M nc ns A pc lv (.int (nI N) :: st) ws k n Q := by
  intro p e s m args below meth c H locs ls C hA hP hD hS hl
  have hts := C.2.2.2.2.2.2.1
  have hK := C.2.2.2.2.2.2.2.1.1
  refine va_newq C.1 C.2.1 C.2.2.2.2.2.1 (hts _ w1) C.2.2.2.2.2.2.2.1.2.2.2 hK hP hD hS hA (nI_pos (by omega)) (nI_clamp (by omega)) (by omega) hc1 hs1 hd (fun q cA H1 hK1 hP1 hD1 hS1 => ?_)
  have e1 : cA = G.2.2.2 2 := by
    obtain ⟨_, _, _, _, _, g1⟩ := (hK1.2 4 (cA, .object "DummyHunt$Image") rfl).2
    obtain ⟨_, _, _, _, _, g2⟩ := (hK.2 2 (G.2.2.2 2, .object "DummyHunt$Image") rfl).2
    exact Option.some.inj (g1.symm.trans g2)
  subst e1
  rw [hws q] at hP1 hD1
  exact kk q p e s m args below meth c H1 locs ls C hA hP1 hD1 hS1 hl
theorem k_astq {a q0 qk v N : Nat} {vs : List Value} {f : Nat → Option Nat} {i : Int32} (ws' : va_W) (hd : decode M.2.1 pc = .ok (.aastore, 1)) (ha : ws[q0]? = some (a, .inl (G.2.2.2 2, N, .inr (.inr (.inr (.inr f)))))) (hv : ws[qk]? = some (v, .inr (2, vs))) (hin : vp_in i N) (hws : ws.set q0 (a, .inl (G.2.2.2 2, N, .inr (.inr (.inr (.inr (va_up f i.toNatClampNeg (some v))))))) = ws') (kk : kJ G M nc ns A (pc + 1) lv st ws' k n Q) : kJ G M nc ns A pc lv (.ref v :: .int i :: .ref a :: st) ws k n Q := by
  intro p e s m args below meth c H locs ls C hA hP hD hS hl
  have hK := C.2.2.2.2.2.2.2.1.1
  subst hws
  exact va_astq C.1 C.2.1 hK hP hD hS q0 2 qk 2 (r := (RX2, TX2, 3)) ha rfl hv rfl hin hd (fun H1 locs1 hP1 hD1 hS1 => kk p e s m args below meth c H1 locs1 ls C hA hP1 hD1 hS1 hl)
/-- what constructor Y is, by entry ix -/
def kY (own : String) (ix d nn : Nat) (Y : dh_M) : Prop :=
  (∃ host, Cond.methodLinkNest own ix Y.1 host ∈ dh_NW) ∧ Cond.code Y.1 Y.2.1 Y.2.2.1 none ∈ dh_cw ∧ Y.2.2.2.1 = none ∧ Cond.initialized Y.1.cls ∈ dh_cw ∧ (Y.1.cls ≠ "java/lang/invoke/MethodHandle" ∧ Y.1.cls ≠ "java/lang/invoke/VarHandle") ∧ (parseMethodDescriptor Y.1.desc).map (fun d => d.parameters.length) = some nn ∧ Y.2.2.2.2 + 1 ≤ d ∧ Y.2.2.1 ≤ 17 ∧ Cond.instanceMethod Y.1 ∈ dh_cw ∧ Y.1.name = "<init>"
theorem kW_pre {G : dh_G} {s : State} {H : Heap} {as : List Value} {wc : va_W} (hW0 : kW G s) (hP : va_P G.2.1 vwCl wc H) (hD : va_D (fun _ => True) wc) : PreS s H (va_Pc as (fun U => U.heap.size = H.size ∧ va_P G.2.1 vwCl wc U.heap ∧ kW G U ∧ va_D (fun _ => True) wc)) as := by
  refine ⟨?_, fun U hU hW => ⟨rfl, by rw [hU], by rw [hU]; exact hP, kW_warm hW hW0, hD⟩⟩
  rintro a U g mk ⟨h1, h2, h3, h4, h5⟩
  exact ⟨h1, h2, h3, kW_call h4, h5⟩
theorem k_call {ix nn mc ms b : Nat} {Y : dh_M} {wc wr : va_W} {Qc : va_W → Prop} (As : List Value) (isC isR : List Nat) (hd : decode M.2.1 pc = .ok (.invokespecial ix, 3)) (hY : kY M.1.cls ix M.2.2.2.2 nn Y) (hM : kC G Y mc ms (.ref b :: As) wc Qc) (hnn : As.length = nn) (hC : isC.map (fun i => ws[i]?) = wc.map some) (hC' : isC.filterMap (fun i => ws[i]?) = wc) (hR : isR.map (fun i => ws[i]?) = wr.map some) (hnC : va_nd isC = true) (hnR : va_nd isR = true) (hdis : ∀ i ∈ isR, i ∉ isC) (hst : (st.map fun v => v.category).sum ≤ 8) (hk : k + mc ≤ nc) (hs : n + ms ≤ ns) (kk : ∀ w1, Qc w1 → kJ G M nc ns A (pc + 3) lv st (wr ++ w1) (k + mc) (n + ms) Q) : kJ G M nc ns A pc lv (As.reverse ++ .ref b :: st) ws k n Q := by
  intro p e s m args below meth c H locs ls C hA hP hD hS hl
  obtain ⟨⟨host, y1⟩, y2, y2', y3, y4, y5, y6, y7, y8, y9⟩ := hY
  have hts := C.2.2.2.2.2.2.1
  have hW0 := C.2.2.2.2.2.2.2.1
  have hlen : ∀ sig, parseMethodDescriptor Y.1.desc = some sig → nn = sig.parameters.length := fun sig g => by rw [g] at y5; exact (Option.some.inj y5).symm
  have hPc := hP.sub (ws' := wc) isC hC'
  have hDc := (hD.sub (ws' := wc) isC hnC hC).weaken (B := fun _ => True) (fun _ _ _ _ => trivial)
  have hFc := va_free (wc := wc) hD hS hA isC hC
  have hwr : ∀ w ∈ dh_ws Y, ∀ (a' : Array Value) (U : State), s.WarmedH U.vm → w.before a' U = true := dh_good hts (Y := Y) (by rw [y2']; exact y2)
  have hin : Cond.code Y.1 Y.2.1 Y.2.2.1 none ∈ dh_ws Y := by
    show Cond.code Y.1 Y.2.1 Y.2.2.1 none ∈ Cond.code Y.1 Y.2.1 Y.2.2.1 Y.2.2.2.1 :: dh_cw
    rw [y2']
    exact List.mem_cons_self
  have hRl : 8 + (Y.2.2.1 + 11) + (kR Y mc ms).locals ≤ (kR M nc ns).locals := by show 8 + (Y.2.2.1 + 11) + 36 * Y.2.2.2.2 ≤ 36 * M.2.2.2.2; omega
  refine va_callv (va_runIN (As := As) (rest := st) (b := b) (n := nn) (bytes := Y.2.1) (maxL := Y.2.2.1) ⟨C.1, C.2.1, C.2.2.1, C.2.2.2.2.2.1, hts⟩ (hM H.size) ⟨⟨⟨rfl, rfl, y6, hRl, hwr, hin⟩, hts _ y2, hts _ y3, y4, hlen, (hW0.2.1 _ y1).use rfl⟩, y9, hts _ y8⟩ (kW_pre hW0 hPc hDc) rfl hnn hl.1 rfl (by show 2 * 0 + _ ≤ 8; omega) hd ⟨hk, hs⟩) hS (fun q _ h => hFc q h) hFc (fun w1 t H1 locs1 ht hvm hw hB hz1 hk1 hS1 => ?_)
  obtain ⟨hP1, hD1⟩ := hB
  rw [ht] at hP1
  obtain ⟨hP2, hD2⟩ := va_join (wr := wr) (w1 := w1) hP hD isC isR hC hR hnR hdis hk1 hFc hP1 hD1
  exact kk w1 hw p e s m args below meth c H1 locs1 ls C hA hP2 hD2 hS1 hl
theorem k_call0 {ix mc ms b : Nat} {Y : dh_M} {wc wr : va_W} {Qc : va_W → Prop} (isC isR : List Nat) (hd : decode M.2.1 pc = .ok (.invokespecial ix, 3)) (hY : kY M.1.cls ix M.2.2.2.2 0 Y) (hM : kC G Y mc ms [.ref b] wc Qc) (hC : isC.map (fun i => ws[i]?) = wc.map some) (hC' : isC.filterMap (fun i => ws[i]?) = wc) (hR : isR.map (fun i => ws[i]?) = wr.map some) (hnC : va_nd isC = true) (hnR : va_nd isR = true) (hdis : ∀ i ∈ isR, i ∉ isC) (hst : (st.map fun v => v.category).sum ≤ 8) (hk : k + mc ≤ nc) (hs : n + ms ≤ ns) (kk : ∀ w1, Qc w1 → kJ G M nc ns A (pc + 3) lv st (wr ++ w1) (k + mc) (n + ms) Q) : kJ G M nc ns A pc lv (.ref b :: st) ws k n Q := k_call [] isC isR hd hY hM rfl hC hC' hR hnC hnR hdis hst hk hs kk
theorem k_call1 {ix mc ms b : Nat} {x1 : Value} {Y : dh_M} {wc wr : va_W} {Qc : va_W → Prop} (isC isR : List Nat) (hd : decode M.2.1 pc = .ok (.invokespecial ix, 3)) (hY : kY M.1.cls ix M.2.2.2.2 1 Y) (hM : kC G Y mc ms [.ref b, x1] wc Qc) (hC : isC.map (fun i => ws[i]?) = wc.map some) (hC' : isC.filterMap (fun i => ws[i]?) = wc) (hR : isR.map (fun i => ws[i]?) = wr.map some) (hnC : va_nd isC = true) (hnR : va_nd isR = true) (hdis : ∀ i ∈ isR, i ∉ isC) (hst : (st.map fun v => v.category).sum ≤ 8) (hk : k + mc ≤ nc) (hs : n + ms ≤ ns) (kk : ∀ w1, Qc w1 → kJ G M nc ns A (pc + 3) lv st (wr ++ w1) (k + mc) (n + ms) Q) : kJ G M nc ns A pc lv (x1 :: .ref b :: st) ws k n Q := k_call [x1] isC isR hd hY hM rfl hC hC' hR hnC hnR hdis hst hk hs kk
theorem k_multi {ix N N2 : Nat} (hd : decode M.2.1 pc = .ok (.multianewarray ix 2, 4)) (w1 : Cond.classLink M.1.cls ix "[[I" ∈ dh_cw) (hN : N ≤ 64) (hN2 : N2 ≤ 64) (hc1 : k + (1 + N) ≤ nc) (hs1 : n + (N + N * N2) ≤ ns)
    (kk : ∀ (q : Nat) (rs : List Nat), rs.length = N → kJ G M nc ns A (pc + 4) lv (.ref q :: st) (ws ++ (q, .inl (G.2.2.2 3, N, .inr (.inr (.inr (.inr (fun j => rs[j]?)))))) :: rs.map (fun r => (r, .inl (G.2.2.2 0, N2, .inl (fun _ => 0))))) (k + (1 + N)) (n + (N + N * N2)) Q) : kJ G M nc ns A pc lv (.int (nI N2) :: .int (nI N) :: st) ws k n Q := by
  intro p e s m args below meth c H locs ls C hA hP hD hS hl
  have hts := C.2.2.2.2.2.2.1
  have hK := C.2.2.2.2.2.2.2.1.1
  obtain ⟨kA, kC, c1, a1, a2, a3, a4⟩ := C.2.2.2.2.2.2.2.1.2.2.1
  have hnA : s.vm.findClass "[[I" = some (G.2.2.2 3) := (hK.2 3 (G.2.2.2 3, .array .int) rfl).2
  refine w_multi C.1 C.2.1 C.2.2.2.2.2.1 (hts _ w1) hnA a1 a2 a3 a4 hN hN2 hc1 hs1 hS.1 hd (fun H1 hH1 => ?_)
  obtain ⟨hz, ho, ⟨z, hq, hqz⟩, hr⟩ := hH1
  let rs : List Nat := (List.range N).map (fun j => H.size + 1 + j)
  have hrs : rs.length = N := by simp [rs]
  have hrj : ∀ j, j < N → rs[j]? = some (H.size + 1 + j) := fun j hj => by simp [rs, hj]
  have hrn : ∀ (j x : Nat), rs[j]? = some x → j < N ∧ x = H.size + 1 + j := fun j x h => by
    have h1 : j < N := by have := (List.getElem?_eq_some_iff.mp h).1; omega
    rw [hrj j h1] at h
    exact ⟨h1, (Option.some.inj h).symm⟩
  have hx : ∀ (j : Nat) (y : Nat × va_E), ((H.size, .inl (G.2.2.2 3, N, .inr (.inr (.inr (.inr (fun j => rs[j]?)))))) :: rs.map (fun r => ((r, .inl (G.2.2.2 0, N2, .inl (fun _ => 0))) : Nat × va_E)) : va_W)[j]? = some y → y.1 = H.size + j ∧ va_at G.2.1 vwCl y H1 := by
    intro j y hy
    cases j with
    | zero =>
      cases hy
      refine ⟨rfl, ?_⟩
      show H1[H.size]? = some (vp_cell _ _)
      rw [hq, vp_cell_q]
      congr 1
      refine arrV_cg (fun j hj => ?_)
      rw [hqz j hj]
      simp [hrj j hj, va_rf]
    | succ j =>
      rw [List.getElem?_cons_succ, List.getElem?_map] at hy
      cases hj : rs[j]? with
      | none => rw [hj] at hy; cases hy
      | some x =>
        rw [hj] at hy
        cases hy
        obtain ⟨g1, g2⟩ := hrn j x hj
        subst g2
        refine ⟨by show H.size + 1 + j = H.size + (j + 1); omega, ?_⟩
        show H1[H.size + 1 + j]? = some (vp_cell _ _)
        rw [hr j g1]
        rfl
  refine kk H.size rs hrs p e s m args below meth c H1 locs ls C hA ?_ ?_ ?_ hl
  · exact (hP.kept (fun i x hx => ho x.1 ((hP i x hx).lt))).app (fun j y hy => (hx j y hy).2)
  · refine hD.app ⟨fun i j x y h1 h2 h3 => ?_, fun j y hy => ?_⟩ (fun i j x y h1 h2 => ?_)
    · rw [(hx i x h1).1, (hx j y h2).1] at h3
      omega
    · rw [(hx j y hy).1]
      exact hA _ (Nat.le_trans hS.1 (Nat.le_add_right _ _))
    · have g1 := (hP i x h1).lt
      rw [(hx j y h2).1]
      omega
  · exact ⟨Nat.le_trans hS.1 (by omega), fun q g1 g2 => (ho q (Nat.lt_of_lt_of_le g1 hS.1)).trans (hS.2.1 q g1 g2), hS.2.2⟩
end KR
