/-! the base: the two objects' world as a numbered layout with an int heap; the walk judgement over it (dh_J), a method's contract (dh_C), a row an instruction -/
abbrev dh_G : Type := Launch × va_G × (Nat → Nat) × (Nat → ClassId)
abbrev dh_H : Type := Nat → Nat → Int32
abbrev dh_L : Type := (Nat × List (Option Nat)) ⊕ (Nat × Nat × List Nat)
abbrev dh_M : Type := MethodName × ByteArray × Nat × Option FieldType × Nat
def dh_LAY : List dh_L := [.inl (9, [some 1, some 3, some 11, some 19, some 25, some 27, some 37, some 51, some 54, some 55, some 60]),
  .inl (6, [some 2, none, none, none, none, none]),
  .inr (0, 240, []),
  .inl (5, [none, none, none, none, none, some 4, some 5, some 6, some 7, some 8, some 9, some 10]),
  .inr (0, 6, []),
  .inr (0, 6, []),
  .inr (0, 6, []),
  .inr (0, 6, []),
  .inr (0, 6, []),
  .inr (0, 6, []),
  .inr (0, 6, []),
  .inl (5, [none, none, none, none, none, some 12, some 13, some 14, some 15, some 16, some 17, some 18]),
  .inr (0, 6, []),
  .inr (0, 6, []),
  .inr (0, 6, []),
  .inr (0, 6, []),
  .inr (0, 6, []),
  .inr (0, 6, []),
  .inr (0, 6, []),
  .inl (8, [some 3, none, some 20, some 21, some 22, some 23, some 24]),
  .inr (0, 6, []),
  .inr (0, 6, []),
  .inr (0, 6, []),
  .inr (0, 6, []),
  .inr (0, 6, []),
  .inl (4, [some 26, none, none]),
  .inr (0, 620, []),
  .inl (3, [none, none, some 28, some 29]),
  .inr (0, 6, []),
  .inr (3, 7, [30, 31, 32, 33, 34, 35, 36]),
  .inr (0, 64, []),
  .inr (0, 64, []),
  .inr (0, 64, []),
  .inr (0, 64, []),
  .inr (0, 64, []),
  .inr (0, 64, []),
  .inr (0, 64, []),
  .inl (7, [some 3, none, some 38, some 39, some 40, some 41, none, some 42, some 43, some 44]),
  .inr (0, 8, []),
  .inr (0, 8, []),
  .inr (1, 8, []),
  .inr (0, 6, []),
  .inr (0, 64, []),
  .inr (0, 64, []),
  .inr (3, 6, [45, 46, 47, 48, 49, 50]),
  .inr (0, 6, []),
  .inr (0, 6, []),
  .inr (0, 6, []),
  .inr (0, 6, []),
  .inr (0, 6, []),
  .inr (0, 6, []),
  .inl (0, [none, some 52, some 53]),
  .inr (0, 15, []),
  .inr (0, 15, []),
  .inl (1, [none]),
  .inr (2, 2, [56, 58]),
  .inl (2, [none, none, some 57]),
  .inr (0, 31, []),
  .inl (2, [none, none, some 59]),
  .inr (0, 31, []),
  .inr (0, 20, []),
  .inl (10, [none, some 62, none, none, none, none, none, none, none, none, none, none, none, none, some 63, some 64, none, none, none, none, none, some 65, some 66, some 67, some 68, some 69, none, some 70, some 71, some 72, none, none, some 73, none, some 74, some 75, some 76, some 77, some 78]),
  .inr (0, 240, []),
  .inr (0, 12, []),
  .inr (0, 24, []),
  .inr (0, 12, []),
  .inr (0, 24, []),
  .inr (0, 6, []),
  .inr (0, 32, []),
  .inr (0, 640, []),
  .inr (0, 64, []),
  .inr (0, 2, []),
  .inr (1, 2, []),
  .inr (0, 24, []),
  .inr (0, 30, []),
  .inr (0, 6, []),
  .inr (0, 6, []),
  .inr (0, 20, []),
  .inr (0, 36, [])]
/-- a value with numbered cells, at its addresses -/
def dh_cv (ad : Nat → Nat) : Value → Value
  | .ref i => .ref (ad i)
  | v => v
theorem dh_cv_cat (ad : Nat → Nat) (v : Value) : (dh_cv ad v).category = v.category := by cases v <;> rfl
def dh_fld (ad : Nat → Nat) (h : dh_H) (i k : Nat) (o : Option Nat) : Value := match o with
  | none => .int (h i k)
  | some r => .ref (ad r)
def dh_E (G : dh_G) (h : dh_H) (i : Nat) (d : dh_L) : va_E := match d with
  | .inl (ci, fl) => .inr (ci, fl.mapIdx (fun k o => dh_fld G.2.2.1 h i k o))
  | .inr (kd, n, []) => .inl (G.2.2.2 kd, n, .inl (h i))
  | .inr (kd, n, r :: rs) => .inl (G.2.2.2 kd, n, .inr (.inr (.inr (.inr (fun j => ((r :: rs)[j]?).map G.2.2.1)))))
def dh_W (G : dh_G) (h : dh_H) : va_W := dh_LAY.mapIdx (fun i d => (G.2.2.1 i, dh_E G h i d))
theorem dh_W_at {G : dh_G} {h : dh_H} {i : Nat} {d : dh_L} (hd : dh_LAY[i]? = some d) : (dh_W G h)[i]? = some (G.2.2.1 i, dh_E G h i d) := by
  unfold dh_W
  rw [List.getElem?_mapIdx, hd]
  rfl
theorem dh_E_congr {G : dh_G} {h h' : dh_H} {i : Nat} (e : h i = h' i) (d : dh_L) : dh_E G h i d = dh_E G h' i d := by
  match d with
  | .inl (ci, fl) =>
    have e2 : (fun k o => dh_fld G.2.2.1 h i k o) = (fun k o => dh_fld G.2.2.1 h' i k o) := by
      funext k o
      cases o <;> simp [dh_fld, e]
    simp only [dh_E, e2]
  | .inr (kd, n, []) => simp only [dh_E, e]
  | .inr (kd, n, r :: rs) => rfl
theorem dh_W_set {G : dh_G} {h h' : dh_H} {i : Nat} {d : dh_L} {e : va_E} (hd : dh_LAY[i]? = some d) (he : e = dh_E G h' i d) (ho : ∀ j, j ≠ i → h' j = h j) : (dh_W G h).set i (G.2.2.1 i, e) = dh_W G h' := by
  apply List.ext_getElem?
  intro k
  by_cases hk : k = i
  · subst hk
    have h1 := dh_W_at (G := G) (h := h) hd
    rw [List.getElem?_set_self (List.getElem?_eq_some_iff.mp h1).1, dh_W_at hd, he]
  · rw [List.getElem?_set_ne (Ne.symm hk)]
    unfold dh_W
    rw [List.getElem?_mapIdx, List.getElem?_mapIdx]
    cases dh_LAY[k]? with
    | none => rfl
    | some d' => simp only [Option.map_some, dh_E_congr (ho k hk).symm d']
/-- one int of the heap set -/
def dh_s (h : dh_H) (i k : Nat) (x : Int32) : dh_H := fun a => if a = i then upd (h i) k x else h a
theorem dh_s_i (h : dh_H) (i k : Nat) (x : Int32) : dh_s h i k x i = upd (h i) k x := if_pos rfl
theorem dh_s_n {h : dh_H} {i k : Nat} {x : Int32} {j : Nat} (e : j ≠ i) : dh_s h i k x j = h j := if_neg e
theorem dh_s_eq (h : dh_H) (i k : Nat) (x : Int32) : dh_s h i k x i k = x := by simp [dh_s, upd]
theorem dh_s_nk {h : dh_H} {i k : Nat} {x : Int32} {j : Nat} (e : j ≠ k) : dh_s h i k x i j = h i j := by simp [dh_s, upd, e]
/-- a stretch of one row copied to another -/
def dh_c (h : dh_H) (a b sp dp n : Nat) : dh_H := fun q => if q = b then va_cpy (h a) (h b) sp dp n else h q
theorem dh_c_n {h : dh_H} {a b sp dp n q : Nat} (e : q ≠ b) : dh_c h a b sp dp n q = h q := if_neg e
theorem dh_c_i (h : dh_H) (a b sp dp n : Nat) : dh_c h a b sp dp n b = va_cpy (h a) (h b) sp dp n := if_pos rfl
theorem dh_E_put {G : dh_G} {h : dh_H} {i ci k : Nat} {fl : List (Option Nat)} {x : Int32} (hk : fl[k]? = some none) :
    (.inr (ci, (fl.mapIdx (fun k o => dh_fld G.2.2.1 h i k o)).set k (.int x)) : va_E) = dh_E G (dh_s h i k x) i (.inl (ci, fl)) := by
  show _ = (.inr (ci, fl.mapIdx (fun z o => dh_fld G.2.2.1 (dh_s h i k x) i z o)) : va_E)
  congr 2
  apply List.ext_getElem?
  intro j
  by_cases hj : j = k
  · subst hj
    have hl := (List.getElem?_eq_some_iff.mp hk).1
    rw [List.getElem?_set_self (by simpa using hl), List.getElem?_mapIdx, hk]
    simp [dh_fld, dh_s_eq]
  · rw [List.getElem?_set_ne (Ne.symm hj), List.getElem?_mapIdx, List.getElem?_mapIdx]
    cases fl[j]? with
    | none => rfl
    | some o => cases o <;> simp [dh_fld, dh_s_nk hj]
-- words
def dh_cw : List Cond := lw_tbl.filter goodWord
theorem dh_in {w : Cond} (i : Nat) (h : tables_1[i]? = some w) (g : goodWord w = true) : w ∈ dh_cw := List.mem_filter.mpr ⟨List.mem_append_right _ (List.mem_of_getElem? h), g⟩
theorem dh_inS {w : Cond} (i : Nat) (h : (k2_sels lw_privs)[i]? = some w) (g : goodWord w = true) : w ∈ dh_cw := List.mem_filter.mpr ⟨List.mem_append_left _ (List.mem_of_getElem? h), g⟩
def dh_nest : Cond → Bool
  | .fieldLinkNest _ _ _ _ _ _ => true
  | .methodLinkNest _ _ _ _ => true
  | _ => false
def dh_NW : List Cond := tables_1.filter dh_nest
theorem dh_inN {w : Cond} (i : Nat) (h : tables_1[i]? = some w) (g : dh_nest w = true) : w ∈ dh_NW := List.mem_filter.mpr ⟨List.mem_of_getElem? h, g⟩
theorem dh_NW_on {w : Cond} (h : w ∈ dh_NW) : w.onTables = true := by
  have g := (List.mem_filter.mp h).2
  cases w <;> first | rfl | (exact absurd g (by simp [dh_nest]))
theorem dh_NW_warm {s U : State} (hW : s.WarmedH U.vm) (h : ∀ w ∈ dh_NW, va_Nw w s) : ∀ w ∈ dh_NW, va_Nw w U := by
  intro w hw
  have g := (List.mem_filter.mp hw).2
  have h1 := h w hw
  cases w <;> first | exact va_Nw.warmF hW h1 | exact va_Nw.warmM hW h1 | (exact absurd g (by simp [dh_nest]))
-- the world's own
def dh_tys (G : dh_G) : List (ClassId × FieldType) := [(G.2.2.2 0, .int), (G.2.2.2 1, .boolean), (G.2.2.2 2, .object "DummyHunt$Image"), (G.2.2.2 3, .array .int)]
def dh_ok (G : dh_G) : Prop := ∀ i j : Nat, i < dh_LAY.length → j < dh_LAY.length → G.2.2.1 i = G.2.2.1 j → i = j
def dh_A (G : dh_G) : Nat → Prop := fun q => ∃ i : Nat, i < dh_LAY.length ∧ q = G.2.2.1 i
theorem dh_W_D {G : dh_G} (ok : dh_ok G) (h : dh_H) : va_D (dh_A G) (dh_W G h) := by
  have key : ∀ (k : Nat) (q : Nat × va_E), (dh_W G h)[k]? = some q → k < dh_LAY.length ∧ q.1 = G.2.2.1 k := by
    intro k q hk
    unfold dh_W at hk
    rw [List.getElem?_mapIdx] at hk
    cases hd : dh_LAY[k]? with
    | none => rw [hd] at hk; cases hk
    | some d =>
      rw [hd] at hk
      cases hk
      exact ⟨(List.getElem?_eq_some_iff.mp hd).1, rfl⟩
  refine ⟨fun i j a b hi hj hab => ?_, fun k q hk => ?_⟩
  · obtain ⟨l1, e1⟩ := key i a hi
    obtain ⟨l2, e2⟩ := key j b hj
    exact ok i j l1 l2 (by rw [← e1, ← e2]; exact hab)
  · obtain ⟨l1, e1⟩ := key k q hk
    exact ⟨k, l1, e1⟩
def dh_ws (M : dh_M) : List Cond := Cond.code M.1 M.2.1 M.2.2.1 M.2.2.2.1 :: dh_cw
def dh_R (M : dh_M) : Room := { frames := M.2.2.2.2, cells := 0, slots := 0, locals := 36 * M.2.2.2.2 }
def dh_World (G : dh_G) (h : dh_H) (U : State) : Prop := va_P G.2.1 vwCl (dh_W G h) U.heap ∧ va_K G.2.1 vwCl (dh_tys G) U ∧ (∀ w ∈ dh_NW, va_Nw w U) ∧ dh_ok G
def dh_Q (G : dh_G) (Q : Option Value → dh_H → Prop) : Array Value → State → Outcome → State → Prop := fun _ st oc t => (∃ (v : Option Value) (h' : dh_H), oc = .returned (v.map (dh_cv G.2.2.1)) ∧ Q v h' ∧ va_P G.2.1 vwCl (dh_W G h') t.heap) ∧ va_F (dh_A G) st t
/-- method M, called with these arguments in this heap, returns with Q -/
def dh_C (G : dh_G) (M : dh_M) (as : List Value) (h : dh_H) (Q : Option Value → dh_H → Prop) : Prop :=
  Met G.1 M.1 (dh_ws M) (dh_R M) (va_Pc (as.map (dh_cv G.2.2.1)) (fun U => dh_World G h U)) (dh_Q G Q) 0 0 (dh_A G)
def dh_X (G : dh_G) (M : dh_M) (p : Program) (s : State) (m : MethodId) (args : Array Value) (meth : Method) (c : Code) : Prop :=
  p.tables.exec = Jvm.exec ∧ c.code = M.2.1 ∧ c.maxLocals = M.2.2.1 ∧ meth.sig.returnType = M.2.2.2.1 ∧ meth.locks = false ∧ s.vm.findClass M.1.cls = some m.cls ∧ (∀ w ∈ dh_cw, w.before args s = true) ∧ va_K G.2.1 vwCl (dh_tys G) s ∧ (∀ w ∈ dh_NW, va_Nw w s) ∧ dh_ok G
/-- the locals that are known, by their places -/
def dh_lv (ad : Nat → Nat) : Nat → List (Option Value) → List (Nat × Value)
  | _, [] => []
  | i, none :: r => dh_lv ad (i + 1) r
  | i, some v :: r => (i, dh_cv ad v) :: dh_lv ad (i + 1) r
theorem dh_lv_mem (ad : Nat → Nat) : ∀ (lv : List (Option Value)) (i : Nat) (q : Nat × Value), q ∈ dh_lv ad i lv ↔ ∃ (k : Nat) (v : Value), lv[k]? = some (some v) ∧ q = (i + k, dh_cv ad v)
  | [], i, q => by simp [dh_lv]
  | none :: r, i, q => by
    rw [show dh_lv ad i (none :: r) = dh_lv ad (i + 1) r from rfl, dh_lv_mem ad r (i + 1) q]
    constructor
    · rintro ⟨k, v, h1, h2⟩
      exact ⟨k + 1, v, by simpa using h1, by rw [h2, show i + 1 + k = i + (k + 1) by omega]⟩
    · rintro ⟨k, v, h1, h2⟩
      cases k with
      | zero => simp at h1
      | succ k => exact ⟨k, v, by simpa using h1, by rw [h2, show i + 1 + k = i + (k + 1) by omega]⟩
  | some w :: r, i, q => by
    rw [show dh_lv ad i (some w :: r) = (i, dh_cv ad w) :: dh_lv ad (i + 1) r from rfl, List.mem_cons, dh_lv_mem ad r (i + 1) q]
    constructor
    · rintro (h | ⟨k, v, h1, h2⟩)
      · exact ⟨0, w, rfl, by simpa using h⟩
      · exact ⟨k + 1, v, by simpa using h1, by rw [h2, show i + 1 + k = i + (k + 1) by omega]⟩
    · rintro ⟨k, v, h1, h2⟩
      cases k with
      | zero =>
        have h3 : w = v := by simpa using h1
        exact Or.inl (by rw [h2, h3]; rfl)
      | succ k => exact Or.inr ⟨k, v, by simpa using h1, by rw [h2, show i + 1 + k = i + (k + 1) by omega]⟩
theorem dh_lv_get {ad : Nat → Nat} {lv : List (Option Value)} {ls : Array Slot} {n i : Nat} {v : Value} (hl : lv_has ls n (dh_lv ad 0 lv)) (h : lv[i]? = some (some v)) : ls[i]? = some (.val (dh_cv ad v)) :=
  hl.2.2 (i, dh_cv ad v) ((dh_lv_mem ad lv 0 _).mpr ⟨i, v, h, by simp⟩)
/-- no long stands just ahead of place i -/
def dh_nl (lv : List (Option Value)) (i : Nat) : Bool := match i with
  | 0 => true
  | j + 1 => match lv[j]? with
    | some (some v) => v.category == 1
    | _ => true
theorem dh_lv_set1 {ad : Nat → Nat} {lv : List (Option Value)} {i : Nat} {v : Value} (hn : dh_nl lv i = true) {ls : Array Slot} {n : Nat} (h : lv_has ls n ((i, dh_cv ad v) :: (dh_lv ad 0 lv).filter (fun q => !(q.1 == i) && !(q.1 + 1 == i && q.2.category == 2)))) : lv_has ls n (dh_lv ad 0 (lv.set i (some v))) := by
  refine ⟨h.1, h.2.1, fun q hq => h.2.2 q ?_⟩
  obtain ⟨k, w, h1, h2⟩ := (dh_lv_mem ad _ 0 q).mp hq
  by_cases hk : k = i
  · subst hk
    have hlt : k < lv.length := by
      have := (List.getElem?_eq_some_iff.mp h1).1
      simpa using this
    rw [List.getElem?_set_self hlt] at h1
    cases h1
    exact List.mem_cons.mpr (Or.inl (by rw [h2]; simp))
  · rw [List.getElem?_set_ne (Ne.symm hk)] at h1
    refine List.mem_cons.mpr (Or.inr (List.mem_filter.mpr ⟨(dh_lv_mem ad lv 0 q).mpr ⟨k, w, h1, h2⟩, ?_⟩))
    subst h2
    simp only [Nat.zero_add, Bool.and_eq_true, Bool.not_eq_true', beq_eq_false_iff_ne, Bool.and_eq_false_iff, ne_eq]
    refine ⟨hk, ?_⟩
    by_cases hi : k + 1 = i
    · subst hi
      right
      rw [dh_cv_cat]
      have h3 : (w.category == 1) = true := by
        have := hn
        simp only [dh_nl, h1] at this
        exact this
      have h4 : w.category = 1 := by simpa using h3
      omega
    · exact Or.inl hi
theorem dh_lv_set2 {ad : Nat → Nat} {lv : List (Option Value)} {i : Nat} {v : Value} (hn : dh_nl lv i = true) {ls : Array Slot} {n : Nat} (h : lv_has ls n ((i, dh_cv ad v) :: (dh_lv ad 0 lv).filter (fun q => !(q.1 == i) && (!(q.1 == i + 1) && !(q.1 + 1 == i && q.2.category == 2))))) : lv_has ls n (dh_lv ad 0 ((lv.set i (some v)).set (i + 1) none)) := by
  refine ⟨h.1, h.2.1, fun q hq => h.2.2 q ?_⟩
  obtain ⟨k, w, h1, h2⟩ := (dh_lv_mem ad _ 0 q).mp hq
  have hk1 : k ≠ i + 1 := by
    intro e
    subst e
    have hlt := (List.getElem?_eq_some_iff.mp h1).1
    rw [List.length_set] at hlt
    rw [List.getElem?_set_self (by simpa using hlt)] at h1
    cases h1
  rw [List.getElem?_set_ne (Ne.symm hk1)] at h1
  by_cases hk : k = i
  · subst hk
    have hlt : k < lv.length := by
      have := (List.getElem?_eq_some_iff.mp h1).1
      simpa using this
    rw [List.getElem?_set_self hlt] at h1
    cases h1
    exact List.mem_cons.mpr (Or.inl (by rw [h2]; simp))
  · rw [List.getElem?_set_ne (Ne.symm hk)] at h1
    refine List.mem_cons.mpr (Or.inr (List.mem_filter.mpr ⟨(dh_lv_mem ad lv 0 q).mpr ⟨k, w, h1, h2⟩, ?_⟩))
    subst h2
    simp only [Nat.zero_add, Bool.and_eq_true, Bool.not_eq_true', beq_eq_false_iff_ne, Bool.and_eq_false_iff, ne_eq]
    refine ⟨hk, hk1, ?_⟩
    by_cases hi : k + 1 = i
    · subst hi
      right
      rw [dh_cv_cat]
      have h3 : (w.category == 1) = true := by
        have := hn
        simp only [dh_nl, h1] at this
        exact this
      have h4 : w.category = 1 := by simpa using h3
      omega
    · exact Or.inl hi
/-- method M, standing at pc with these locals, this stack, this heap, comes to its end with Q -/
def dh_J (G : dh_G) (M : dh_M) (pc : Nat) (lv : List (Option Value)) (st : List Value) (h : dh_H) (Q : Option Value → dh_H → Prop) : Prop :=
  ∀ (p : Program) (e : Env) (s : State) (m : MethodId) (args : Array Value) (below : List Frame) (meth : Method) (c : Code) (H : Heap) (locs : List Loc) (ls : Array Slot), dh_X G M p s m args meth c → va_P G.2.1 vwCl (dh_W G h) H → va_S (dh_A G) s.heap H locs → lv_has ls M.2.2.1 (dh_lv G.2.2.1 0 lv) →
    W p G.1 e (dh_R M) s m args below meth c H locs 0 0 (MQ below (dh_Q G Q) args s 0 0 (dh_A G)) (F0 m pc ls (st.map (dh_cv G.2.2.1)))
/-- a method's contract out of its walk -/
theorem dh_C_of {G : dh_G} {M : dh_M} {as : List Value} {h : dh_H} {Q : Option Value → dh_H → Prop} (lv : List (Option Value)) (hy : plainName M.1.cls = true) (hn : (lg_sl (as.map (dh_cv G.2.2.1))).length ≤ M.2.2.1) (he : dh_lv G.2.2.1 0 lv = lv_args 0 (as.map (dh_cv G.2.2.1))) (k : dh_J G M 0 lv [] h Q) : dh_C G M as h Q := by
  refine Met.ofW (cc := M.2.1) (maxL := M.2.2.1) (ret := M.2.2.2.1) hy rfl ?_
  intro p e s m args below meth c s₁ B hml hv
  obtain ⟨rfl, hP, hK, hN, ok⟩ := hv
  have hts := atoms_spec (ws := dh_ws M) B.pre
  have hl := lv_entry (as.map (dh_cv G.2.2.1)) hn
  rw [← he] at hl
  rw [lg_entry_eq]
  exact k p e s m _ below meth c s.heap [] _ ⟨B.exec, B.bytes, hml, B.returns, B.notSynchronized, findClass_of_methodNamed B.named, fun w hw => hts w (List.mem_cons_of_mem _ hw), hK, hN, ok⟩ hP va_S.rf hl
theorem dh_C_mono {G : dh_G} {M : dh_M} {as : List Value} {h : dh_H} {Q Q' : Option Value → dh_H → Prop} (k : dh_C G M as h Q) (hq : ∀ v h', Q v h' → Q' v h') : dh_C G M as h Q' := by
  intro p e ha hc hk s m args below hf happ hP hK
  obtain ⟨n, o, a1, a2, a3, ⟨⟨⟨v, h', b1, b2, b3⟩, b4⟩, b5⟩⟩ := k p e ha hc hk s m args below hf happ hP hK
  exact ⟨n, o, a1, a2, a3, ⟨⟨⟨v, h', b1, hq v h' b2, b3⟩, b4⟩, b5⟩⟩
theorem dh_J_mono {G : dh_G} {M : dh_M} {pc : Nat} {lv : List (Option Value)} {st : List Value} {h : dh_H} {Q Q' : Option Value → dh_H → Prop} (k : dh_J G M pc lv st h Q) (hq : ∀ v h', Q v h' → Q' v h') : dh_J G M pc lv st h Q' := by
  intro p e s m args below meth c H locs ls C hP hS hl T hT X
  obtain ⟨t, a1, o, a2, a3, ⟨⟨v, h', b1, b2, b3⟩, b4⟩, b5⟩ := k p e s m args below meth c H locs ls C hP hS hl T hT X
  exact ⟨t, a1, o, a2, a3, ⟨⟨v, h', b1, hq v h' b2, b3⟩, b4⟩, b5⟩
