/-! rows of rows: what multianewarray makes (two dimensions, ints) -/
/-- the outer row, when i of its N rows have been made; h its address -/
def k2o (cA : ClassId) (N h i : Nat) : Cell := arrV cA N (fun j => if j < i then .ref (h + 1 + j) else .null)
def k2i (cI : ClassId) (M : Nat) : Cell := arrV cI M (fun _ => .int 0)
/-- the state, when i of the N rows have been made -/
def k2s (cA cI : ClassId) (N M : Nat) (T : State) : Nat → State
  | 0 => T.pushCell (k2o cA N T.heap.size 0)
  | i + 1 => ((k2s cA cI N M T i).pushCell (k2i cI M)).setCell T.heap.size (k2o cA N T.heap.size (i + 1))
theorem k2o_set (cA : ClassId) (N h i : Nat) : (k2o cA N h i).setSlot i (.ref (h + 1 + i)) = k2o cA N h (i + 1) := by
  unfold k2o
  rw [arrV_store]
  congr 1
  funext j
  by_cases e : j = i
  · subst e; simp [updV]
  · by_cases e2 : j < i
    · simp [updV, e, e2, show j < i + 1 by omega]
    · simp [updV, e, e2, show ¬ j < i + 1 by omega]
section K2
variable {cA cI : ClassId} {N M : Nat} {T : State}
theorem k2s_sz : ∀ i, (k2s cA cI N M T i).heap.size = T.heap.size + 1 + i
  | 0 => by simp [k2s]
  | i + 1 => by simp [k2s, k2s_sz i]; omega
theorem k2s_vm : ∀ i, (k2s cA cI N M T i).vm = T.vm
  | 0 => rfl
  | i + 1 => by simp [k2s, k2s_vm i]
theorem k2s_at : ∀ i, (k2s cA cI N M T i).heap[T.heap.size]? = some (k2o cA N T.heap.size i)
  | 0 => by simp [k2s]
  | i + 1 => by
    have h1 := k2s_sz (cA := cA) (cI := cI) (N := N) (M := M) (T := T) i
    simp only [k2s, State.heap_setCell, State.heap_pushCell]
    rw [Array.getElem?_setIfInBounds_self_of_lt (by rw [Array.size_push]; omega)]
theorem k2s_old {q : Nat} (hq : q < T.heap.size) : ∀ i, (k2s cA cI N M T i).heap[q]? = T.heap[q]?
  | 0 => by
    simp only [k2s, State.heap_pushCell]
    rw [Array.getElem?_push, if_neg (by omega)]
  | i + 1 => by
    have h1 := k2s_sz (cA := cA) (cI := cI) (N := N) (M := M) (T := T) i
    simp only [k2s, State.heap_setCell, State.heap_pushCell]
    rw [Array.getElem?_setIfInBounds_ne (by omega), Array.getElem?_push, if_neg (by omega)]
    exact k2s_old hq i
theorem k2s_row {j : Nat} : ∀ i, j < i → (k2s cA cI N M T i).heap[T.heap.size + 1 + j]? = some (k2i cI M)
  | 0, h => absurd h (by omega)
  | i + 1, h => by
    have h1 := k2s_sz (cA := cA) (cI := cI) (N := N) (M := M) (T := T) i
    simp only [k2s, State.heap_setCell, State.heap_pushCell]
    rw [Array.getElem?_setIfInBounds_ne (by omega), Array.getElem?_push]
    by_cases e : j = i
    · rw [if_pos (by omega)]
    · rw [if_neg (by omega)]
      exact k2s_row i (by omega)
theorem k2s_top (f : JFrame) : ∀ i, k2s cA cI N M (T.setTop f) i = (k2s cA cI N M T i).setTop f
  | 0 => rfl
  | i + 1 => by simp only [k2s, k2s_top f i, State.heap_setTop, State.pushCell_setTop, State.setCell_setTop]
theorem k2s_X {p : Program} {l : Launch} {e : Env} {R : Room} {s : State} {m : MethodId} {args : Array Value} {below : List Frame} {meth : Method} {c : Code} {locs : List Loc} {cells slots : Nat} (X : Stand p l e R s m args below meth c T locs cells slots) (hs : s.heap.size ≤ T.heap.size) : ∀ i, Stand p l e R s m args below meth c (k2s cA cI N M T i) locs (cells + (1 + i)) (slots + (N + i * M))
  | 0 => by
    have h := X.pushed (k2o cA N T.heap.size 0)
    rw [show (k2o cA N T.heap.size 0).slots.size = N from arrV_size _ _ _] at h
    simpa [k2s] using h
  | i + 1 => by
    have h1 := k2s_sz (cA := cA) (cI := cI) (N := N) (M := M) (T := T) i
    have h2 := k2s_at (cA := cA) (cI := cI) (N := N) (M := M) (T := T) i
    have h := ((k2s_X X hs i).pushed (k2i cI M)).stored (a := T.heap.size) (cell := k2o cA N T.heap.size i) (by
      simp only [State.heap_pushCell]
      rw [Array.getElem?_push, if_neg (by omega)]
      exact h2) i (.ref (T.heap.size + 1 + i))
    rw [k2o_set, show (k2i cI M).slots.size = M from arrV_size _ _ _] at h
    have h3 := Stand.forget h (fun y hy => by
      have : y = ⟨T.heap.size, i⟩ := by simpa using hy
      rw [this]
      exact hs)
    have e1 : cells + (1 + (i + 1)) = cells + (1 + i) + 1 := by omega
    have e2 : slots + (N + (i + 1) * M) = slots + (N + i * M) + M := by rw [Nat.succ_mul]; omega
    rw [e1, e2]
    exact h3
end K2
theorem w_multi {p : Program} {l : Launch} {e : Env} {R : Room} {s : State} {m : MethodId} {args : Array Value} {below : List Frame} {meth : Method} {c : Code} {H : Heap} {locs : List Loc} {cells slots : Nat} {Q : State → Prop} {cc : ByteArray} {pc : Nat} {ls : Array Slot} {rest : List Value}
    (hexec : p.tables.exec = Jvm.exec) (hb : c.code = cc) {own : String} {index : Nat} (hown : s.vm.findClass own = some m.cls) (hclk : (Cond.classLink own index "[[I").before args s = true)
    {cA cI c1 : ClassId} {kA kC : Class} (hnA : s.vm.findClass "[[I" = some cA) (hkA : s.vm.classes[cA]? = some kA) (hA : kA.kind = .array cI (.array .int)) (hkC : s.vm.classes[cI]? = some kC) (hC : kC.kind = .array c1 .int)
    {N M : Nat} (hN : N ≤ 64) (hM : M ≤ 64) (hcells : cells + (1 + N) ≤ R.cells) (hslots : slots + (N + N * M) ≤ R.slots) (hs : s.heap.size ≤ H.size) (hd : decode cc pc = .ok (.multianewarray index 2, 4))
    (kk : ∀ H1 : Heap, H1.size = H.size + 1 + N → (∀ q : Nat, q < H.size → H1[q]? = H[q]?) → H1[H.size]? = some (k2o cA N H.size N) → (∀ j, j < N → H1[H.size + 1 + j]? = some (k2i cI M)) →
      W p l e R s m args below meth c H1 locs (cells + (1 + N)) (slots + (N + N * M)) Q (F0 m (pc + 4) ls (.ref H.size :: rest))) : W p l e R s m args below meth c H locs cells slots Q (F0 m pc ls (.int (nI M) :: .int (nI N) :: rest)) := by
  intro T hT X
  subst hT; subst hb
  have hpl : e.platform.magicAccessors = ({} : Platform).magicAccessors := by rw [X.admits.platform]
  obtain ⟨c0, hfc0, hcl⟩ := Cond.classLink_spec hown hclk e.platform hpl
  cases hnA.symm.trans hfc0
  obtain ⟨hg1, hw1, hr1⟩ := State.classEntry (e := e) X.warmed hcl
  generalize T.vm.noted m.cls index (.cls cA) = vm1 at hg1 hw1 hr1
  obtain ⟨kA1, hkA1, eA⟩ := hw1.alike.2.2 _ _ hkA
  obtain ⟨kC1, hkC1, eC⟩ := hw1.alike.2.2 _ _ hkC
  have hA1 : kA1.kind = .array cI (.array .int) := by rw [eA]; exact hA
  have hC1 : kC1.kind = .array c1 .int := by rw [eC]; exact hC
  have X1 := X.noted hw1
  have XF := fun i => k2s_X (cA := cA) (cI := cI) (N := N) (M := M) X1 hs i
  obtain ⟨t, a1, b1⟩ := kk (k2s cA cI N M (T.setVm vm1) N).heap (k2s_sz (T := T.setVm vm1) N) (fun q hq => k2s_old (T := T.setVm vm1) hq N) (k2s_at (T := T.setVm vm1) N) (fun j hj => k2s_row (T := T.setVm vm1) N hj) _ rfl (XF N)
  refine ⟨t, ?_, b1⟩
  have cN : (nI N).toNatClampNeg = N := nI_clamp (by omega)
  have cM : (nI M).toNatClampNeg = M := nI_clamp (by omega)
  have pN : ¬ nI N < 0 := nI_pos (by omega)
  have pM : ¬ nI M < 0 := nI_pos (by omega)
  have lim : e.platform.arrayLengthLimit = _ := Launch.admits_arrayLengthLimit X.admits
  have mhb : e.platform.maxHeapBytes = _ := Launch.admits_maxHeapBytes X.admits
  jvm_step X.here [hexec, hd]
  simp only [multianewarray.sem, wp_bind', W.resolveClassAt_links (t := T.setTop (F0 m pc ls (.int (nI M) :: .int (nI N) :: rest))) (mm := m) (vm' := vm1) (State.method?_setTop (F0 m pc ls (.int (nI M) :: .int (nI N) :: rest)) X.here.top) hg1]
  rw [W.popN, if_neg (by decide)]
  refine ⟨F0 m pc ls (.int (nI M) :: .int (nI N) :: rest), State.topJava?_setTop' (s := T.setVm vm1) _ X.here.top, [.int (nI N), .int (nI M)], rest, rfl, rfl, ?_⟩
  simp only [List.mapM_cons, List.mapM_nil, wp_bind', wp_pure']
  have eS : ∀ f f2 : JFrame, ((T.setTop f).setVm vm1).setTop f2 = (T.setVm vm1).setTop f2 := fun f f2 => by
    show ((T.setVm vm1).setTop f).setTop f2 = _
    rw [State.setTop_setTop]
  rw [eS]
  generalize hfr : ({ (F0 m pc ls (.int (nI M) :: .int (nI N) :: rest)) with stack := rest } : JFrame) = f0
  rw [multianewarray.make]
  simp only [wp_bind', W.ite, pN, if_false, wp_pure', W.theClass, Option.some.injEq, exists_eq_left']
  have rm1 := X1.roomAbove (a := 1 + N) (b := N + N * M) hcells hslots
  have e0 : ({ cls := cA, slots := Array.replicate N Value.null } : Cell) = k2o cA N T.heap.size 0 := (arrV_new cA N .null).trans (by unfold k2o; congr 1)
  have ei : ({ cls := cI, slots := Array.replicate M (Value.int 0) } : Cell) = k2i cI M := arrV_new cI M (.int 0)
  refine ⟨kA1, hkA1, ?_⟩
  rw [hA1, cN]
  simp only [wp_bind']
  refine W.newArray_of (k := kA1) (comp := cI) (type := .array .int) hkA1 hA1 (by rw [lim]; omega) (by rw [mhb]; show ¬ N * 4 > _; omega) (by have h9 : T.heap.size + (1 + N) ≤ _ := rm1.1; show T.heap.size < _; omega) (by have h9 : T.slotsUsed + (N + N * M) ≤ _ := rm1.2; show T.slotsUsed + N ≤ _; omega) rfl (fun acts' => ?_)
  have hfind : ([nI M].find? (fun x => decide (x < 0))) = none := by simp [pM]
  simp only [hfind]
  rw [ite_self]
  rw [e0]
  simp only [wp_bind']
  rw [Std.Legacy.Range.forIn_eq_forIn_range', show ([:N] : Std.Legacy.Range).size = N by simp [Std.Legacy.Range.size]]
  show Sem.wp (forIn (List.range' 0 N 1) PUnit.unit _) _ _ _ _ _ _
  refine wp_forIn_inv (fun todo U => ∃ i, i ≤ N ∧ todo = List.range' i (N - i) ∧ U = (k2s cA cI N M (T.setVm vm1) i).setTop f0) _ _ ⟨0, Nat.zero_le _, rfl, rfl⟩ ?_ ?_
  · rintro x todo U d2 acts2 Q2 ⟨i, hi, htd, rfl⟩ hnext
    cases hj : N - i with
    | zero => rw [hj] at htd; cases htd
    | succ j =>
      rw [hj, List.range'_succ] at htd
      obtain ⟨rfl, rfl⟩ := List.cons.inj htd
      have hmul : x * M + M ≤ N * M := by
        have := Nat.mul_le_mul_right M (show x + 1 ≤ N by omega)
        rwa [Nat.succ_mul] at this
      have rmi := (XF x).roomAbove (a := 1) (b := M) (by omega) (by omega)
      have hz := k2s_sz (cA := cA) (cI := cI) (N := N) (M := M) (T := T.setVm vm1) x
      have ha := k2s_at (cA := cA) (cI := cI) (N := N) (M := M) (T := T.setVm vm1) x
      have hv := k2s_vm (cA := cA) (cI := cI) (N := N) (M := M) (T := T.setVm vm1) x
      have hz' : (k2s cA cI N M (T.setVm vm1) x).heap.size = T.heap.size + 1 + x := hz
      have ha' : (k2s cA cI N M (T.setVm vm1) x).heap[T.heap.size]? = some (k2o cA N T.heap.size x) := ha
      rw [multianewarray.make]
      simp only [wp_bind', W.ite, pM, if_false, wp_pure', W.theClass]
      have hk2 : ((k2s cA cI N M (T.setVm vm1) x).setTop f0).vm.classes[cI]? = some kC1 := by
        show (k2s cA cI N M (T.setVm vm1) x).vm.classes[cI]? = _
        rw [hv]
        exact hkC1
      refine ⟨kC1, hk2, ?_⟩
      rw [hC1, cM]
      refine W.newArray_of (k := kC1) (comp := c1) (type := .int) hk2 hC1 (by rw [lim]; omega) (by rw [mhb]; show ¬ M * 4 > _; omega) (by have h9 := rmi.1; show (k2s cA cI N M (T.setVm vm1) x).heap.size < _; omega) (by have h9 := rmi.2; show (k2s cA cI N M (T.setVm vm1) x).slotsUsed + M ≤ _; omega) rfl (fun acts3 => ?_)
      simp only [wp_bind', W.writeLoc, wp_pure']
      rw [show defaultValue .int = Value.int 0 from rfl, ei]
      refine ⟨k2o cA N T.heap.size x, ?_, by unfold k2o arrV; simp, by rw [show (k2o cA N T.heap.size x).slots.size = N from arrV_size _ _ _]; omega, ?_, hnext _ _ _ ⟨x + 1, by omega, ?_, ?_⟩⟩
      · show ((k2s cA cI N M (T.setVm vm1) x).heap.push _)[T.heap.size]? = _
        rw [Array.getElem?_push, if_neg (by omega)]
        exact ha'
      · have h8 : (((k2s cA cI N M (T.setVm vm1) x).setTop f0).pushCell (k2i cI M)).vm.classes[cA]? = some kA1 := by
          show (k2s cA cI N M (T.setVm vm1) x).vm.classes[cA]? = _
          rw [hv]
          exact hkA1
        show State.fitsSlot _ cA .none x _ = true
        unfold State.fitsSlot State.slotType?
        rw [h8]
        simp [hA1, fits]
      · rw [show N - (x + 1) = j by omega]
      · rw [State.pushCell_setTop, State.setCell_setTop]
        show State.setTop (State.setCell _ T.heap.size ((k2o cA N T.heap.size x).setSlot x (.ref (k2s cA cI N M (T.setVm vm1) x).heap.size))) f0 = _
        rw [hz', k2o_set]
        rfl
  · rintro U d2 acts2 ⟨i, hi, htd, rfl⟩
    have hiN : i = N := by
      cases hj : N - i with
      | zero => omega
      | succ j => rw [hj, List.range'_succ] at htd; cases htd
    subst hiN
    simp only [wp_pure', wp_bind', W.mark, W.pushRef, State.topJava?_setTop' _ (XF i).here.top, Option.some.injEq, exists_eq_left', State.setTop_setTop, State.heap_setTop]
    intro acts
    subst hfr
    simp [jvm, (XF i).here.top]
    exact a1
