/-! rows of rows: multianewarray of two dimensions, ints. No state is written out: while rows come, a list of facts of the heap holds (mr_P); the loop is counted by a predicate of the count (mr_count);
the model's maker has a contract a dimension (mr_one, mr_two); the instruction's row (w_multi) puts them together. -/
/-- behind the outer row at a stand n rows of M zeros, and it names them; ahead of a all is as it was -/
def mr_P (cA cI : ClassId) (N M a n : Nat) (H0 H : Heap) : Prop :=
  H.size = a + 1 + n ∧ (∀ q : Nat, q < a → H[q]? = H0[q]?) ∧ (∃ z : Nat → Value, H[a]? = some (arrV cA N z) ∧ ∀ j, j < n → z j = .ref (a + 1 + j)) ∧
    ∀ j, j < n → H[a + 1 + j]? = some (arrV cI M (fun _ => .int 0))
theorem mr_begin (cA cI : ClassId) (N M : Nat) (H : Heap) : mr_P cA cI N M H.size 0 H (H.push (arrV cA N (fun _ => .null))) := by
  refine ⟨by simp, fun q hq => ?_, ⟨fun _ => .null, by simp, fun j hj => absurd hj (by omega)⟩, fun j hj => absurd hj (by omega)⟩
  simp [Array.getElem?_push, Nat.ne_of_lt hq]
theorem mr_more {cA cI : ClassId} {N M a n : Nat} {H0 H : Heap} {z : Nat → Value} (h1 : H.size = a + 1 + n) (h2 : ∀ q : Nat, q < a → H[q]? = H0[q]?) (h4 : ∀ j, j < n → z j = .ref (a + 1 + j))
    (h5 : ∀ j, j < n → H[a + 1 + j]? = some (arrV cI M (fun _ => .int 0))) :
    mr_P cA cI N M a (n + 1) H0 ((H.push (arrV cI M (fun _ => .int 0))).setIfInBounds a ((arrV cA N z).setSlot n (.ref H.size))) := by
  have far : ∀ q : Nat, q ≠ a → ((H.push (arrV cI M (fun _ => .int 0))).setIfInBounds a ((arrV cA N z).setSlot n (.ref H.size)))[q]? = if q = H.size then some (arrV cI M (fun _ => .int 0)) else H[q]? := fun q hq => by
    rw [Array.getElem?_setIfInBounds_ne (fun g => hq g.symm), Array.getElem?_push]
  refine ⟨by simp [h1]; omega, fun q hq => ?_, ⟨updV z n (.ref H.size), ?_, fun j hj => ?_⟩, fun j hj => ?_⟩
  · rw [far q (by omega), if_neg (by omega), h2 q hq]
  · rw [arrV_store, Array.getElem?_setIfInBounds_self_of_lt (by simp; omega)]
  · unfold updV
    split
    · rename_i g; rw [g, h1]
    · exact h4 j (by omega)
  · rw [far _ (by omega)]
    split
    · rfl
    · exact h5 j (by omega)
/-- a loop over the k numbers from n on, by a predicate of the number that is next -/
theorem mr_count {E : CtlPost} {e : Env} {f : Nat → PUnit → Sem (ForInStep PUnit)} {I : Nat → State → Prop} {N : Nat} {Q : PUnit → Pre}
    (hstep : ∀ (n : Nat) (U : State) (d : Bool) (acts : List Action) (Q1 : ForInStep PUnit → Pre), n < N → I n U → (∀ U1 d1 acts1, I (n + 1) U1 → Q1 (.yield PUnit.unit) d1 acts1 U1) → Sem.wp (f n PUnit.unit) Q1 E e d acts U)
    (hend : ∀ U d acts, I N U → Q PUnit.unit d acts U) : ∀ (k n : Nat), n + k = N → ∀ (U : State) (d : Bool) (acts : List Action), I n U → Sem.wp (forIn (List.range' n k) PUnit.unit f) Q E e d acts U := by
  intro k
  induction k with
  | zero =>
    intro n hn U d acts hI
    have : n = N := hn
    subst this
    simpa using hend U d acts hI
  | succ k ih =>
    intro n hn U d acts hI
    rw [List.range'_succ, List.forIn_cons, wp_bind']
    exact hstep n U d acts _ (by omega) hI (fun U1 d1 acts1 h => ih (n + 1) (by omega) U1 d1 acts1 h)
/-- the maker, one dimension: a row of zeros more -/
theorem mr_one {E : CtlPost} {e : Env} {d : Bool} {acts : List Action} {U : State} {cI c1 : ClassId} {k : Class} {M : Nat} {Q : Addr → Pre} (hk : U.vm.classes[cI]? = some k) (hK : k.kind = .array c1 .int) (hM : M ≤ 64)
    (hl : 64 ≤ e.platform.arrayLengthLimit) (hb : 256 ≤ e.platform.maxHeapBytes) (hr : U.heap.size + 1 ≤ e.platform.maxCells ∧ U.slotsUsed + M ≤ e.platform.maxSlots)
    (hq : ∀ acts1, Q U.heap.size d acts1 (U.pushCell (arrV cI M (fun _ => .int 0)))) : Sem.wp (multianewarray.make cI [nI M]) Q E e d acts U := by
  have g : ¬ nI M < 0 := nI_pos (by omega)
  simp only [multianewarray.make, wp_bind', W.ite, if_neg g, wp_pure', W.theClass]
  refine ⟨k, hk, ?_⟩
  simp only [hK]
  rw [nI_clamp (by omega)]
  exact W.newArray_of hk hK (by omega) (by show ¬ M * 4 > _; omega) (by omega) hr.2 rfl (fun acts1 => by
    have := hq acts1
    rwa [← arrV_new] at this)
/-- the maker, two dimensions, by a predicate of how many rows there are -/
theorem mr_two {E : CtlPost} {e : Env} {d : Bool} {acts : List Action} {U : State} {cA cI : ClassId} {k : Class} {N M : Nat} {Q : Addr → Pre} {I : Nat → State → Prop} (hk : U.vm.classes[cA]? = some k) (hK : k.kind = .array cI (.array .int)) (hN : N ≤ 64) (hM : M ≤ 64)
    (hl : 64 ≤ e.platform.arrayLengthLimit) (hb : 256 ≤ e.platform.maxHeapBytes) (hr : U.heap.size + 1 ≤ e.platform.maxCells ∧ U.slotsUsed + N ≤ e.platform.maxSlots)
    (h0 : I 0 (U.pushCell (arrV cA N (fun _ => .null))))
    (hstep : ∀ (n : Nat) (V : State) (d : Bool) (acts : List Action) (Q1 : Unit → Pre), n < N → I n V → (∀ V1 d1 acts1, I (n + 1) V1 → Q1 () d1 acts1 V1) →
      Sem.wp (multianewarray.make cI [nI M]) (fun x d1 acts1 V1 => Sem.wp (Jvm.writeLoc U.heap.size n (.ref x)) Q1 E e d1 acts1 V1) E e d acts V)
    (hend : ∀ V d acts, I N V → Q U.heap.size d acts V) : Sem.wp (multianewarray.make cA [nI N, nI M]) Q E e d acts U := by
  have g : ¬ nI N < 0 := nI_pos (by omega)
  have g2 : ¬ nI M < 0 := nI_pos (by omega)
  rw [multianewarray.make.eq_def]
  simp only [wp_bind', W.ite, if_neg g, wp_pure', W.theClass]
  refine ⟨k, hk, ?_⟩
  simp only [hK, wp_bind']
  rw [nI_clamp (by omega)]
  refine W.newArray_of hk hK (by omega) (by show ¬ N * 4 > _; omega) (by omega) hr.2 rfl (fun acts1 => ?_)
  rw [arrV_new]
  simp only [List.find?, decide_eq_false g2]
  have both : ∀ {α : Type} (b : Bool) (x : Sem α), (if b = true then x else x) = x := fun b x => by cases b <;> rfl
  rw [both, wp_bind', Std.Legacy.Range.forIn_eq_forIn_range']
  have hs : ([:N] : Std.Legacy.Range).size = N := by simp [Std.Legacy.Range.size]
  rw [hs]
  refine mr_count (N := N) (I := I) (fun n V d1 acts2 Q1 hn hI hnext => ?_) (fun V d1 acts2 hI => ?_) N 0 (Nat.zero_add N) _ _ _ h0
  · simp only [wp_bind', wp_pure']
    exact hstep n V d1 acts2 (fun _ => Q1 (.yield PUnit.unit)) hn hI (fun V1 d2 acts3 h => hnext V1 d2 acts3 h)
  · rw [wp_pure']
    exact hend V d1 acts2 hI
/-- a body whose wp holds at every condition on controls ends: its last state, with what holds there -/
theorem mr_run {x : Sem Unit} {e : Env} {S : State} {P : State → Prop} (h : ∀ E : CtlPost, Sem.wp x (fun _ _ _ V => P V) E e false [] S) : ∃ V acts, x.run e S = .ok () V acts ∧ P V := by
  have h1 : wpRun x (fun _ V _ => P V) (fun _ _ _ => False) e S := h _
  rw [wpRun_iff_run] at h1
  cases hr : x.run e S with
  | ok a V acts => rw [hr] at h1; exact ⟨V, acts, rfl, h1⟩
  | ctl y V acts => rw [hr] at h1; cases y <;> exact h1.elim
/-- the instruction's meaning: the class, the two counts, the maker -/
theorem mr_sem {E : CtlPost} {e : Env} {d : Bool} {acts : List Action} {T : State} {f : JFrame} {index : Nat} {cA : ClassId} {vm1 : Vm} {n1 n2 : Int32} {rest : List Value} {Q : Unit → Pre} (ht : T.topJava?.isSome) (hg : (Jvm.resolveClass f.method.cls index).Gives e.toSetting T.vm (.ok cA) vm1)
    (hz : vm1.classes.size ≤ T.vm.classes.size) (hst : f.stack = .int n2 :: .int n1 :: rest)
    (h : Sem.wp (multianewarray.make cA [n1, n2]) (fun a d1 acts1 V => Sem.wp (Jvm.pushRef a) Q E e d1 acts1 V) E e true acts ((T.setVm vm1).setTop { f with stack := rest })) :
    Sem.wp (multianewarray.sem index 2) Q E e d acts (T.setTop f) := by
  unfold multianewarray.sem
  rw [wp_bind', W.resolveClassAt_links (t := T.setTop f) (State.method?_setTop f ht) hg hz, wp_bind']
  refine (popN_top (s := T.setVm vm1) (f := f) (args := [.int n1, .int n2]) (rest := rest) ht hst).mpr ?_
  simp only [List.mapM_cons, List.mapM_nil, wp_bind', wp_pure', W.mark]
  exact h
section MR
variable {p : Program} {l : Launch} {e : Env} {R : Room} {s : State} {m : MethodId} {args : Array Value} {below : List Frame} {meth : Method} {c : Code} {locs : List Loc} {cells slots : Nat}
/-- what holds in the walk when n rows have come: the method stands, the tables are vm1, and mr_P -/
def mr_I (p : Program) (l : Launch) (e : Env) (R : Room) (s : State) (m : MethodId) (args : Array Value) (below : List Frame) (meth : Method) (c : Code) (locs : List Loc) (cells slots : Nat) (f : JFrame) (vm1 : Vm) (cA cI : ClassId) (N M : Nat) (H : Heap) (n : Nat) (V : State) : Prop :=
  ∃ T, V = T.setTop f ∧ T.vm = vm1 ∧ Stand p l e R s m args below meth c T locs (cells + (1 + n)) (slots + (N + n * M)) ∧ mr_P cA cI N M H.size n H T.heap
theorem mr_step {f : JFrame} {vm1 : Vm} {cA cI c1 : ClassId} {kA kC : Class} {N M n : Nat} {H : Heap} {V : State} {E : CtlPost} {d : Bool} {acts : List Action} {Q1 : Unit → Pre} (hA : vm1.classes[cA]? = some kA) (hKA : kA.kind = .array cI (.array .int)) (hC : vm1.classes[cI]? = some kC) (hKC : kC.kind = .array c1 .int)
    (hM : M ≤ 64) (hc : cells + (1 + N) ≤ R.cells) (hsl : slots + (N + N * M) ≤ R.slots) (hs : s.heap.size ≤ H.size) (hn : n < N) (hI : mr_I p l e R s m args below meth c locs cells slots f vm1 cA cI N M H n V)
    (hnext : ∀ V1 d1 acts1, mr_I p l e R s m args below meth c locs cells slots f vm1 cA cI N M H (n + 1) V1 → Q1 () d1 acts1 V1) :
    Sem.wp (multianewarray.make cI [nI M]) (fun x d1 acts1 V1 => Sem.wp (Jvm.writeLoc H.size n (.ref x)) Q1 E e d1 acts1 V1) E e d acts V := by
  obtain ⟨T, rfl, hvm, X, g1, g2, ⟨z, g3, g4⟩, g5⟩ := hI
  have hmul : (n + 1) * M ≤ N * M := Nat.mul_le_mul_right M hn
  have hS : (n + 1) * M = n * M + M := Nat.succ_mul n M
  have room := X.roomAbove (a := 1) (b := M) (by omega) (by omega)
  have hl : 64 ≤ e.platform.arrayLengthLimit := by rw [Launch.admits_arrayLengthLimit X.admits]; decide
  have hb : 256 ≤ e.platform.maxHeapBytes := by rw [Launch.admits_maxHeapBytes X.admits]; decide
  refine mr_one (k := kC) (c1 := c1) (by show T.vm.classes[cI]? = _; rw [hvm]; exact hC) hKC hM hl hb room (fun acts1 => ?_)
  have X2 := X.pushed (arrV cI M (fun _ => .int 0))
  have g3' : (T.pushCell (arrV cI M (fun _ => .int 0))).heap[H.size]? = some (arrV cA N z) := by
    show (T.heap.push _)[H.size]? = _
    rw [Array.getElem?_push, if_neg (by omega), g3]
  have X3 := (X2.stored g3' n (.ref T.heap.size)).forget (fun q hq => by
    rw [List.mem_singleton] at hq
    rw [hq]
    exact hs)
  rw [arrV_size] at X3
  refine ⟨arrV cA N z, g3', (by intro h; cases h), (by rw [arrV_size]; exact hn), ?_, hnext _ _ _ ⟨(T.pushCell (arrV cI M (fun _ => .int 0))).setCell H.size ((arrV cA N z).setSlot n (.ref T.heap.size)), ?_, hvm, ?_, mr_more g1 g2 g4 g5⟩⟩
  · have hcl : ((T.setTop f).pushCell (arrV cI M (fun _ => .int 0))).vm.classes[cA]? = some kA := by show T.vm.classes[cA]? = _; rw [hvm]; exact hA
    show State.fitsSlot _ cA .none n _ = true
    unfold State.fitsSlot State.slotType?
    rw [hcl]
    simp [hKA, fits]
  · simp only [State.pushCell_setTop, State.setCell_setTop, State.heap_setTop]
  · have a1 : cells + (1 + (n + 1)) = cells + (1 + n) + 1 := by omega
    have a2 : slots + (N + (n + 1) * M) = slots + (N + n * M) + M := by omega
    rw [a1, a2]
    exact X3
/-- the instruction's row: an outer row of N, its N rows of M zeros behind it -/
theorem w_multi {H : Heap} {Q : State → Prop} {cc : ByteArray} {pc : Nat} {ls : Array Slot} {rest : List Value} (hexec : p.tables.exec = Jvm.exec) (hb : c.code = cc) {own : String} {index : Nat} (hown : s.vm.findClass own = some m.cls) (hlink : (Cond.classLink own index "[[I").before args s = true)
    {cA cI c1 : ClassId} {kA kC : Class} (hnA : s.vm.findClass "[[I" = some cA) (hA : s.vm.classes[cA]? = some kA) (hKA : kA.kind = .array cI (.array .int)) (hC : s.vm.classes[cI]? = some kC) (hKC : kC.kind = .array c1 .int)
    {N M : Nat} (hN : N ≤ 64) (hM : M ≤ 64) (hc : cells + (1 + N) ≤ R.cells) (hsl : slots + (N + N * M) ≤ R.slots) (hs : s.heap.size ≤ H.size) (hd : decode cc pc = .ok (.multianewarray index 2, 4))
    (kk : ∀ H1 : Heap, mr_P cA cI N M H.size N H H1 → W p l e R s m args below meth c H1 locs (cells + (1 + N)) (slots + (N + N * M)) Q (F0 m (pc + 4) ls (.ref H.size :: rest))) :
    W p l e R s m args below meth c H locs cells slots Q (F0 m pc ls (.int (nI M) :: .int (nI N) :: rest)) := by
  rintro T rfl X
  have hplat : e.platform.magicAccessors = ({} : Platform).magicAccessors := by rw [X.admits.platform]
  obtain ⟨cA2, hn2, entry⟩ := Cond.classLink_spec hown hlink e.platform hplat
  have same : cA2 = cA := Option.some.inj (hn2.symm.trans hnA)
  rw [same] at entry
  obtain ⟨gives, warm, -⟩ := State.classEntry (e := e) X.warmed entry
  have alike := warm.alike
  have sz : (T.vm.noted m.cls index (.cls cA)).classes.size ≤ T.vm.classes.size := by no_record
  generalize T.vm.noted m.cls index (.cls cA) = vm1 at gives warm alike sz
  obtain ⟨kA1, hA1, eA⟩ := alike.2.2 _ _ hA
  obtain ⟨kC1, hC1, eC⟩ := alike.2.2 _ _ hC
  have X1 := X.noted warm
  have room := X1.roomAbove (a := 1) (b := N) (by omega) (by omega)
  have hl : 64 ≤ e.platform.arrayLengthLimit := by rw [Launch.admits_arrayLengthLimit X.admits]; decide
  have hhb : 256 ≤ e.platform.maxHeapBytes := by rw [Launch.admits_maxHeapBytes X.admits]; decide
  have hK1 : kA1.kind = .array cI (.array .int) := by rw [eA]; exact hKA
  have hK2 : kC1.kind = .array c1 .int := by rw [eC]; exact hKC
  -- the run ends, and what holds then
  have fin := mr_run (x := multianewarray.sem index 2) (e := e) (S := T.setTop (F0 m pc ls (.int (nI M) :: .int (nI N) :: rest)))
    (P := fun V => ∃ T1 : State, V = T1.setTop (F0 m pc ls (.ref T.heap.size :: rest)) ∧ Stand p l e R s m args below meth c T1 locs (cells + (1 + N)) (slots + (N + N * M)) ∧ mr_P cA cI N M T.heap.size N T.heap T1.heap)
    (fun E => mr_sem (vm1 := vm1) (rest := rest) X.here.top gives sz rfl (mr_two (I := mr_I p l e R s m args below meth c locs cells slots (F0 m pc ls rest) vm1 cA cI N M T.heap) hA1 hK1 hN hM hl hhb room
      ⟨(T.setVm vm1).pushCell (arrV cA N (fun _ => .null)), (by simp only [State.pushCell_setTop]), rfl, (by
        have X2 := X1.pushed (arrV cA N (fun _ => .null))
        rw [arrV_size] at X2
        simpa using X2), mr_begin cA cI N M T.heap⟩
      (fun n V d1 acts1 Q1 hn hI hnext => mr_step hA1 hK1 hC1 hK2 hM hc hsl hs hn hI hnext)
      (fun V d1 acts1 hI => by
        obtain ⟨T1, rfl, -, X3, h3⟩ := hI
        exact ⟨_, State.topJava?_setTop' _ X3.here.top, T1, by rw [State.setTop_setTop]; rfl, X3, h3⟩)))
  obtain ⟨V, acts1, hrun, T1, rfl, X3, h3⟩ := fin
  obtain ⟨t, st, hQ⟩ := kk T1.heap h3 T1 rfl X3
  refine ⟨t, ?_, hQ⟩
  refine Steps.instr (c := c) (f := F0 m pc ls (.int (nI M) :: .int (nI N) :: rest)) X.here ?_
  have hdec : decode c.code (F0 m pc ls (.int (nI M) :: .int (nI N) :: rest)).pc = .ok (.multianewarray index 2, 4) := by rw [hb]; exact hd
  have hex : p.tables.exec (.multianewarray index 2) = multianewarray.sem index 2 := by rw [hexec]; rfl
  simp only [hdec, hex]
  rw [wpRun_iff_run, hrun]
  intro acts2
  rw [afterInstr_ok]
  exact st
end MR
