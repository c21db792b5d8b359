/-! the law: its judgement, a row an instruction (the head is the skeleton's) -/
def R_law : String := "DummyHuntLaw"
def lw_P (b : Addr) (xs : List Int32) (args : Array Value) (s : State) : Prop := args = #[.ref b] ∧ s.IntsAt b xs ∧ xs.length ≤ 256 ∧ (Jvm.Cond.and given_1 narrow_1).before args s = true
def lw_Q (_ : Array Value) (s : State) (o : Outcome) (t : State) : Prop := o = .returned (some (.int 1)) ∧ Framed s o t [] 600000 7302250
def lw_Z (below : List Frame) (a : Array Value) (s : State) : State → Prop := fun t => ∃ o, t.status = .running ∧ Ended t below o ∧ lw_Q a s o t
/-- the law's own end, with 1 on the stack, nothing written that was there before, its room as the claim has it -/
theorem lw_ret {p : Program} {l : Launch} {e : Env} {s : State} {m : MethodId} {below : List Frame} {meth : Method} {c : Code} {b : Nat} (hx : p.tables.exec = Jvm.exec) (hb : c.code = code) (hr : meth.sig.returnType = ret) (hlocks : meth.locks = false) {pc : Nat} {H : Heap} {ls : Array Slot} (hdg : decode code pc = .ok (.ireturn, 1)) : W p l e room_1 s m #[Value.ref b] below meth c H [] 600000 7302250 (lw_Z below #[Value.ref b] s) (F0 m pc ls [.int 1]) := by
  intro T hT X
  obtain ⟨fs, hret, hrun, hended, hW, hframe⟩ := X.leave (v := some (.int 1)) (hlocks := hlocks) (fun h => by rw [hr] at h; cases h)
  have hmeth' : T.vm.method? m = some meth := X.method'
  refine ⟨T.setFrames fs, ?_, .returned (some (.int 1)), hrun, hended, rfl, ⟨_, rfl⟩, hW, hframe⟩
  jvm_step X.here [X.here.top, hx, hb, hdg, hmeth', hr, ret, narrow_b1]
  (try refine ⟨rfl, ?_⟩); (try refine ⟨rfl, ?_⟩)
  first | (intro acts; rw [hret _ acts rfl rfl rfl]) | rw [hret _ _ rfl rfl rfl]
  exact Steps.refl _
/-- what holds at the law's entry: the machine, the code, the tables' words (any of lw_tbl by 'hts w (by decide +kernel)'), the script of L ints xs at the cell b, what the Statement gives of the start (any of its parts by flat_of_before) -/
def lw_At (p : Program) (s : State) (m : MethodId) (meth : Method) (c : Code) (b L : Nat) (xs : Nat → Int32) : Prop :=
  p.tables.exec = Jvm.exec ∧ c.code = code ∧ meth.sig.returnType = ret ∧ c.maxLocals = 4 ∧ s.vm.findClass R_law = some m.cls ∧ (∀ w ∈ lw_tbl, w.before #[Value.ref b] s = true) ∧ va_X b L xs s s.heap ∧ b < s.heap.size ∧ meth.locks = false ∧ (Jvm.Cond.and given_1 narrow_1).before #[Value.ref b] s = true
abbrev lZ : Type := Program × Env × State × MethodId × List Frame × Method × Code × Nat × Nat × (Nat → Int32)
def lb (Z : lZ) : Nat := Z.2.2.2.2.2.2.2.1
def lL (Z : lZ) : Nat := Z.2.2.2.2.2.2.2.2.1
def lx (Z : lZ) : Nat → Int32 := Z.2.2.2.2.2.2.2.2.2
def lX (G : dh_G) (p : Program) (s : State) (m : MethodId) (meth : Method) (c : Code) (b L : Nat) (xs : Nat → Int32) : Prop :=
  lw_At p s m meth c b L xs ∧ va_K G.2.1 vwCl (dh_tys G) s ∧ (∀ w ∈ dh_NW, va_Nw w s) ∧ dh_ok G ∧ ∀ q, dh_A G q → s.heap.size ≤ q
theorem lX_ts {G : dh_G} {p : Program} {s : State} {m : MethodId} {meth : Method} {c : Code} {b L : Nat} {xs : Nat → Int32} (C : lX G p s m meth c b L xs) : ∀ w ∈ dh_cw, w.before #[Value.ref b] s = true := fun w hw => C.1.2.2.2.2.2.1 w (List.mem_filter.mp hw).1
/-- the law, standing at pc in its loop with index x, this stack, this heap, comes to its end with true -/
def lJ (G : dh_G) (Z : lZ) (pc : Nat) (x : Int32) (st : List Value) (h : dh_H) : Prop := match Z with
  | (p, e, s, m, below, meth, c, b, L, xs) => ∀ (H : Heap) (locs : List Loc) (ls : Array Slot), lX G p s m meth c b L xs → va_P G.2.1 vwCl (dh_W G h) H → va_S (fun q : Nat => s.heap.size ≤ q) s.heap H locs → lv_has ls 4 [(3, .int x), (2, .ref (G.2.2.1 61)), (1, .ref (G.2.2.1 0)), (0, .ref b)] →
    W p G.1 e room_1 s m #[Value.ref b] below meth c H locs 79 3043 (lw_Z below #[Value.ref b] s) (F0 m pc ls st)
section LR
variable {G : dh_G} {Z : lZ} {pc : Nat} {x : Int32} {st : List Value} {h : dh_H}
theorem l_a0 (hd : decode code pc = .ok (.aload_n 0, 1)) (k : lJ G Z (pc + 1) x (.ref (lb Z) :: st) h) : lJ G Z pc x st h := by
  obtain ⟨p, e, s, m, below, meth, c, b, L, xs⟩ := Z
  intro H locs ls C hP hS hl
  exact lv_aload_n C.1.1 C.1.2.1 hd rfl (lv_at hl 3 rfl) (k H locs ls C hP hS hl)
theorem l_ax (hd : decode code pc = .ok (.aload_n 1, 1)) (k : lJ G Z (pc + 1) x (.ref (G.2.2.1 0) :: st) h) : lJ G Z pc x st h := by
  obtain ⟨p, e, s, m, below, meth, c, b, L, xs⟩ := Z
  intro H locs ls C hP hS hl
  exact lv_aload_n C.1.1 C.1.2.1 hd rfl (lv_at hl 2 rfl) (k H locs ls C hP hS hl)
theorem l_am (hd : decode code pc = .ok (.aload_n 2, 1)) (k : lJ G Z (pc + 1) x (.ref (G.2.2.1 61) :: st) h) : lJ G Z pc x st h := by
  obtain ⟨p, e, s, m, below, meth, c, b, L, xs⟩ := Z
  intro H locs ls C hP hS hl
  exact lv_aload_n C.1.1 C.1.2.1 hd rfl (lv_at hl 1 rfl) (k H locs ls C hP hS hl)
theorem l_i3 (hd : decode code pc = .ok (.iload_n 3, 1)) (k : lJ G Z (pc + 1) x (.int x :: st) h) : lJ G Z pc x st h := by
  obtain ⟨p, e, s, m, below, meth, c, b, L, xs⟩ := Z
  intro H locs ls C hP hS hl
  exact lv_iload_n C.1.1 C.1.2.1 hd rfl (lv_at hl 0 rfl) (k H locs ls C hP hS hl)
theorem l_iconst {z : Int} (v : Int32) (hd : decode code pc = .ok (.iconst z, 1)) (hv : Int32.ofInt z = v) (k : lJ G Z (pc + 1) x (.int v :: st) h) : lJ G Z pc x st h := by
  obtain ⟨p, e, s, m, below, meth, c, b, L, xs⟩ := Z
  intro H locs ls C hP hS hl
  exact lv_iconst C.1.1 C.1.2.1 hd hv (k H locs ls C hP hS hl)
theorem l_bipush {z : Int} (v : Int32) (hd : decode code pc = .ok (.bipush z, 2)) (hv : (Int8.ofInt z).toInt32 = v) (k : lJ G Z (pc + 2) x (.int v :: st) h) : lJ G Z pc x st h := by
  obtain ⟨p, e, s, m, below, meth, c, b, L, xs⟩ := Z
  intro H locs ls C hP hS hl
  exact lv_bipush C.1.1 C.1.2.1 hd hv (k H locs ls C hP hS hl)
theorem l_iadd {a b : Int32} (hd : decode code pc = .ok (.iadd, 1)) (k : lJ G Z (pc + 1) x (.int (a + b) :: st) h) : lJ G Z pc x (.int b :: .int a :: st) h := by
  obtain ⟨p, e, s, m, below, meth, c, b, L, xs⟩ := Z
  intro H locs ls C hP hS hl
  exact lv_iadd C.1.1 C.1.2.1 hd (k H locs ls C hP hS hl)
theorem l_isub {a b : Int32} (hd : decode code pc = .ok (.isub, 1)) (k : lJ G Z (pc + 1) x (.int (a - b) :: st) h) : lJ G Z pc x (.int b :: .int a :: st) h := by
  obtain ⟨p, e, s, m, below, meth, c, b, L, xs⟩ := Z
  intro H locs ls C hP hS hl
  exact lv_isub C.1.1 C.1.2.1 hd (k H locs ls C hP hS hl)
theorem l_iand {a b : Int32} (hd : decode code pc = .ok (.iand, 1)) (k : lJ G Z (pc + 1) x (.int (a &&& b) :: st) h) : lJ G Z pc x (.int b :: .int a :: st) h := by
  obtain ⟨p, e, s, m, below, meth, c, b, L, xs⟩ := Z
  intro H locs ls C hP hS hl
  exact lv_iand C.1.1 C.1.2.1 hd (k H locs ls C hP hS hl)
theorem l_ld {y : Int32} (hin : vp_in y (lL Z)) (hd : decode code pc = .ok (.iaload, 1)) (k : lJ G Z (pc + 1) x (.int (lx Z y.toNatClampNeg) :: st) h) : lJ G Z pc x (.int y :: .ref (lb Z) :: st) h := by
  obtain ⟨p, e, s, m, below, meth, c, b, L, xs⟩ := Z
  intro H locs ls C hP hS hl
  exact va_sld C.1.1 C.1.2.1 C.1.2.2.2.2.2.2.1 C.1.2.2.2.2.2.2.2.1 (Nat.not_le.mpr C.1.2.2.2.2.2.2.2.1) hS hin hd (k H locs ls C hP hS hl)
theorem l_len (hd : decode code pc = .ok (.arraylength, 1)) (k : lJ G Z (pc + 1) x (.int (nI (lL Z)) :: st) h) : lJ G Z pc x (.ref (lb Z) :: st) h := by
  obtain ⟨p, e, s, m, below, meth, c, b, L, xs⟩ := Z
  intro H locs ls C hP hS hl
  exact va_slen C.1.1 C.1.2.1 C.1.2.2.2.2.2.2.1 C.1.2.2.2.2.2.2.2.1 (Nat.not_le.mpr C.1.2.2.2.2.2.2.2.1) hS hd (k H locs ls C hP hS hl)
theorem l_gt {a b : Int32} {off : Int} (tgt : Nat) (hd : decode code pc = .ok (.if_icmp .gt off, 3)) (ht : (pc : Int) + off = (tgt : Int)) (kt : b < a → lJ G Z tgt x st h) (kf : ¬ b < a → lJ G Z (pc + 3) x st h) : lJ G Z pc x (.int b :: .int a :: st) h := by
  obtain ⟨p, e, s, m, below, meth, c, b, L, xs⟩ := Z
  intro H locs ls C hP hS hl
  exact lv_icmp_gt C.1.1 C.1.2.1 hd ht (fun q => kt q H locs ls C hP hS hl) (fun q => kf q H locs ls C hP hS hl)
theorem l_eq {a : Int32} {off : Int} (tgt : Nat) (hd : decode code pc = .ok (.if_icmp .eq off, 3)) (ht : (pc : Int) + off = (tgt : Int)) (kt : lJ G Z tgt x st h) : lJ G Z pc x (.int a :: .int a :: st) h := by
  obtain ⟨p, e, s, m, below, meth, c, b, L, xs⟩ := Z
  intro H locs ls C hP hS hl
  exact lv_icmp_eq C.1.1 C.1.2.1 hd ht (fun q => kt H locs ls C hP hS hl) (fun q => absurd rfl q)
theorem l_ifeq {a : Int32} {off : Int} (tgt : Nat) (hd : decode code pc = .ok (.ifCond .eq off, 3)) (ht : (pc : Int) + off = (tgt : Int)) (kt : a = 0 → lJ G Z tgt x st h) (kf : ¬ a = 0 → lJ G Z (pc + 3) x st h) : lJ G Z pc x (.int a :: st) h := by
  obtain ⟨p, e, s, m, below, meth, c, b, L, xs⟩ := Z
  intro H locs ls C hP hS hl
  exact lv_if_eq C.1.1 C.1.2.1 hd ht (fun q => kt q H locs ls C hP hS hl) (fun q => kf q H locs ls C hP hS hl)
theorem l_goto {off : Int} (tgt : Nat) (hd : decode code pc = .ok (.goto off, 3)) (ht : (pc : Int) + off = (tgt : Int)) (k : lJ G Z tgt x st h) : lJ G Z pc x st h := by
  obtain ⟨p, e, s, m, below, meth, c, b, L, xs⟩ := Z
  intro H locs ls C hP hS hl
  exact lv_goto C.1.1 C.1.2.1 hd ht (k H locs ls C hP hS hl)
theorem l_iinc {z : Int} (v : Int32) (hd : decode code pc = .ok (.iinc 3 z, 3)) (hv : x + Int32.ofInt z = v) (k : lJ G Z (pc + 3) v st h) : lJ G Z pc x st h := by
  obtain ⟨p, e, s, m, below, meth, c, b, L, xs⟩ := Z
  intro H locs ls C hP hS hl
  exact lv_iinc C.1.1 C.1.2.1 hd hl (k := 0) rfl hv (by decide) rfl (fun ls' h' => k H locs ls' C hP hS h')
theorem l_out {dflt lo hi : Int} {offs : Array Int} {len : Nat} {a : Int32} (tgt : Nat) (hd : decode code pc = .ok (.tableswitch dflt lo hi offs, len)) (hx : a.toInt < lo ∨ hi < a.toInt) (ht : (pc : Int) + dflt = (tgt : Int)) (k : lJ G Z tgt x st h) : lJ G Z pc x (.int a :: st) h := by
  obtain ⟨p, e, s, m, below, meth, c, b, L, xs⟩ := Z
  intro H locs ls C hP hS hl
  exact lv_tableOut C.1.1 C.1.2.1 hd hx ht (k H locs ls C hP hS hl)
theorem l_in {dflt lo hi : Int} {offs : Array Int} {len : Nat} {a : Int32} {off : Int} (tgt : Nat) (hd : decode code pc = .ok (.tableswitch dflt lo hi offs, len)) (h1 : ¬ a.toInt < lo) (h2 : ¬ hi < a.toInt) (ho : offs[(a.toInt - lo).toNat]? = some off) (ht : (pc : Int) + off = (tgt : Int)) (k : lJ G Z tgt x st h) : lJ G Z pc x (.int a :: st) h := by
  obtain ⟨p, e, s, m, below, meth, c, b, L, xs⟩ := Z
  intro H locs ls C hP hS hl
  exact lv_tableIn C.1.1 C.1.2.1 hd h1 h2 ho ht (k H locs ls C hP hS hl)
theorem l_ret (hd : decode code pc = .ok (.ireturn, 1)) : lJ G Z pc x [.int 1] h := by
  obtain ⟨p, e, s, m, below, meth, c, b, L, xs⟩ := Z
  intro H locs ls C hP hS hl
  refine va_forget hS.2.2 (W.widen (k := 600000) (n := 7302250) (by decide) (by decide) ?_)
  exact lw_ret C.1.1 C.1.2.1 C.1.2.2.1 C.1.2.2.2.2.2.2.2.2.1 hd
/-- an argument out of the script: aload_0, iload_3, iconst, iadd, iaload -/
theorem l_arg {j kk : Nat} {z : Int} (hj : j + kk < lL Z) (hL : lL Z ≤ 256) (hz : Int32.ofInt z = nI kk) (d0 : decode code pc = .ok (.aload_n 0, 1)) (d1 : decode code (pc + 1) = .ok (.iload_n 3, 1)) (d2 : decode code (pc + 2) = .ok (.iconst z, 1)) (d3 : decode code (pc + 3) = .ok (.iadd, 1)) (d4 : decode code (pc + 4) = .ok (.iaload, 1)) (k : lJ G Z (pc + 5) (nI j) (.int (lx Z (j + kk)) :: st) h) : lJ G Z pc (nI j) st h := by
  refine l_a0 d0 (l_i3 d1 (l_iconst (nI kk) d2 hz (l_iadd d3 ?_)))
  rw [nI_add]
  refine l_ld (vp_in_nI hj (by omega)) d4 ?_
  rw [nI_clamp (by omega)]
  exact k
def lz (a : Int32) : Int32 := if a = 0 then 0 else 1
theorem lz_01 (a : Int32) : lz a = 0 ∨ lz a = 1 := by
  unfold lz
  split
  · exact Or.inl rfl
  · exact Or.inr rfl
/-- whether it isn't 0: ifeq, iconst_1, goto, iconst_0 -/
theorem l_bool {a : Int32} {tgt tg2 : Nat} {o1 o2 : Int} (d0 : decode code pc = .ok (.ifCond .eq o1, 3)) (h0 : (pc : Int) + o1 = (tgt : Int)) (d1 : decode code (pc + 3) = .ok (.iconst 1, 1)) (d2 : decode code (pc + 3 + 1) = .ok (.goto o2, 3)) (h2 : ((pc + 3 + 1 : Nat) : Int) + o2 = (tg2 : Int)) (d3 : decode code tgt = .ok (.iconst 0, 1)) (h3 : tgt + 1 = tg2) (k : lJ G Z tg2 x (.int (lz a) :: st) h) : lJ G Z pc x (.int a :: st) h := by
  subst h3
  refine l_ifeq tgt d0 h0 (fun q => ?_) (fun q => ?_)
  · refine l_iconst 0 d3 (by decide) ?_
    rw [show lz a = 0 by unfold lz; rw [if_pos q]] at k
    exact k
  · refine l_iconst 1 d1 (by decide) (l_goto (tgt + 1) d2 h2 ?_)
    rw [show lz a = 1 by unfold lz; rw [if_neg q]] at k
    exact k
theorem l_call {ix nn ci bb N : Nat} {T : u_T} {Y : dh_M} {fl : List (Option Nat)} (As : List Value) (hAs : As.map (dh_cv G.2.2.1) = As) (hd : decode code pc = .ok (.invokevirtual ix, 3)) (hY : dh_Y R_law ix 8 nn true Y) (hn : As.length = nn) (ho : dh_LAY[bb]? = some (.inl (ci, fl))) (hci : vwCl[ci]? = some (Y.1.cls, T, N)) (hst : (st.map fun v => v.category).sum ≤ 8)
    (k : dh_C G Y (.ref bb :: As) h (fun v h1 => ∃ r : Int32, v = some (.int r) ∧ lJ G Z (pc + 3) x (.int r :: st) h1)) : lJ G Z pc x (As.reverse ++ .ref (G.2.2.1 bb) :: st) h := by
  obtain ⟨p, e, s, m, below, meth, c, b, L, xs⟩ := Z
  intro H locs ls C hP hS hl
  obtain ⟨y1, y2, y3, y4, y5, y6, y7, y8⟩ := hY
  have hts := lX_ts C
  have hlen : ∀ sig, parseMethodDescriptor Y.1.desc = some sig → nn = sig.parameters.length := fun sig g => by rw [g] at y5; exact (Option.some.inj y5).symm
  have hrc := va_recv C.2.1 hP hci (dh_W_at ho)
  have hR : (dh_R Y).frames + 1 ≤ room_1.frames := by show Y.2.2.2.2 + 1 ≤ 9; omega
  have hRl : 8 + (Y.2.2.1 + 11) + (dh_R Y).locals ≤ room_1.locals := by show 8 + (Y.2.2.1 + 11) + 36 * Y.2.2.2.2 ≤ 326; omega
  have hpre : ∀ U : State, U.heap = H → s.WarmedH U.vm → va_Pc ((.ref bb :: As).map (dh_cv G.2.2.1)) (fun U => dh_World G h U) ((.ref bb :: As).map (dh_cv G.2.2.1)).toArray U :=
    fun U hU hW => ⟨rfl, by rw [hU]; exact hP, va_K.moved hW.alike C.2.1, dh_NW_warm hW C.2.2.1, C.2.2.2.1⟩
  have hr : va_Run p G.1 e room_1 s m #[Value.ref b] below meth c H locs 79 3043 0 0 (F0 m pc ls (As.reverse ++ .ref (G.2.2.1 bb) :: st)) st (dh_Q G (fun v h1 => ∃ r : Int32, v = some (.int r) ∧ lJ G (p, e, s, m, below, meth, c, b, L, xs) (pc + 3) x (.int r :: st) h1) ((Value.ref (G.2.2.1 bb) :: As.map (dh_cv G.2.2.1)).toArray)) (dh_A G) := by
    rcases y1 with y1 | ⟨host, y1⟩
    · exact va_runV (As := As.map (dh_cv G.2.2.1)) (b := G.2.2.1 bb) (C := Y.1.cls) (n := nn) (bytes := Y.2.1) (maxL := Y.2.2.1) (ret := Y.2.2.2.1) ⟨C.1.1, C.1.2.1, C.1.2.2.2.1, C.1.2.2.2.2.1, hts⟩ k ⟨⟨rfl, rfl, hR, hRl, dh_good hts y2, List.mem_cons_self, hts _ y2, hts _ y3, y4, hlen, hts _ y1⟩, hts _ y8.1, hts _ y8.2⟩ ⟨dh_blind, hrc, hpre⟩ rfl (by simpa using hn) hl.1 (by rw [hAs]) (by show 2 * 0 + _ ≤ 8; omega) hd ⟨by decide, by decide⟩
    · exact va_runVN (As := As.map (dh_cv G.2.2.1)) (b := G.2.2.1 bb) (C := Y.1.cls) (n := nn) (bytes := Y.2.1) (maxL := Y.2.2.1) (ret := Y.2.2.2.1) ⟨C.1.1, C.1.2.1, C.1.2.2.2.1, C.1.2.2.2.2.1, hts⟩ k ⟨⟨⟨rfl, rfl, hR, hRl, dh_good hts y2, List.mem_cons_self⟩, hts _ y2, hts _ y3, y4, hlen, (C.2.2.1 _ y1).use rfl⟩, hts _ y8.1, hts _ y8.2⟩ ⟨dh_blind, hrc, hpre⟩ rfl (by simpa using hn) hl.1 (by rw [hAs]) (by show 2 * 0 + _ ≤ 8; omega) hd ⟨by decide, by decide⟩
  intro S hS0 X
  obtain ⟨v, s0, t, S', L', h0, X', hL', e1, e2, ⟨⟨v', h', hv, hq, hP'⟩, hz, hk⟩, stp⟩ := hr S hS0 X
  have hv' : v = v'.map (dh_cv G.2.2.1) := by cases hv; rfl
  subst hv'
  obtain ⟨r, rfl, hq⟩ := hq
  rw [h0] at hz hk
  have k2 := hq S'.heap (locs ++ L') ls C (by rw [e1]; exact hP') ⟨Nat.le_trans hS.1 (by rw [e1]; exact hz), fun q g1 g2 => by rw [e1, hk q (Nat.lt_of_lt_of_le g1 hS.1) (fun z => g2 (C.2.2.2.2 q z))]; exact hS.2.1 q g1 g2, fun q hq => by
      rcases List.mem_append.mp hq with g | g
      · exact hS.2.2 q g
      · exact C.2.2.2.2 _ (hL' q g)⟩ hl
  obtain ⟨t2, a1, b1⟩ := k2 S' rfl X'
  exact ⟨t2, stp t2 a1, b1⟩
theorem l_call0 {ix ci bb N : Nat} {T : u_T} {Y : dh_M} {fl : List (Option Nat)} (hd : decode code pc = .ok (.invokevirtual ix, 3)) (hY : dh_Y R_law ix 8 0 true Y) (ho : dh_LAY[bb]? = some (.inl (ci, fl))) (hci : vwCl[ci]? = some (Y.1.cls, T, N)) (hst : (st.map fun v => v.category).sum ≤ 8)
    (k : dh_C G Y [.ref bb] h (fun v h1 => ∃ r : Int32, v = some (.int r) ∧ lJ G Z (pc + 3) x (.int r :: st) h1)) : lJ G Z pc x (.ref (G.2.2.1 bb) :: st) h := l_call [] rfl hd hY rfl ho hci hst k
theorem l_call1 {ix ci bb N : Nat} {T : u_T} {Y : dh_M} {fl : List (Option Nat)} {a1 : Int32} (hd : decode code pc = .ok (.invokevirtual ix, 3)) (hY : dh_Y R_law ix 8 1 true Y) (ho : dh_LAY[bb]? = some (.inl (ci, fl))) (hci : vwCl[ci]? = some (Y.1.cls, T, N)) (hst : (st.map fun v => v.category).sum ≤ 8)
    (k : dh_C G Y [.ref bb, .int a1] h (fun v h1 => ∃ r : Int32, v = some (.int r) ∧ lJ G Z (pc + 3) x (.int r :: st) h1)) : lJ G Z pc x (.int a1 :: .ref (G.2.2.1 bb) :: st) h := l_call [.int a1] rfl hd hY rfl ho hci hst k
theorem l_call2 {ix ci bb N : Nat} {T : u_T} {Y : dh_M} {fl : List (Option Nat)} {a1 a2 : Int32} (hd : decode code pc = .ok (.invokevirtual ix, 3)) (hY : dh_Y R_law ix 8 2 true Y) (ho : dh_LAY[bb]? = some (.inl (ci, fl))) (hci : vwCl[ci]? = some (Y.1.cls, T, N)) (hst : (st.map fun v => v.category).sum ≤ 8)
    (k : dh_C G Y [.ref bb, .int a1, .int a2] h (fun v h1 => ∃ r : Int32, v = some (.int r) ∧ lJ G Z (pc + 3) x (.int r :: st) h1)) : lJ G Z pc x (.int a2 :: .int a1 :: .ref (G.2.2.1 bb) :: st) h := l_call [.int a1, .int a2] rfl hd hY rfl ho hci hst k
theorem l_call3 {ix ci bb N : Nat} {T : u_T} {Y : dh_M} {fl : List (Option Nat)} {a1 a2 a3 : Int32} (hd : decode code pc = .ok (.invokevirtual ix, 3)) (hY : dh_Y R_law ix 8 3 true Y) (ho : dh_LAY[bb]? = some (.inl (ci, fl))) (hci : vwCl[ci]? = some (Y.1.cls, T, N)) (hst : (st.map fun v => v.category).sum ≤ 8)
    (k : dh_C G Y [.ref bb, .int a1, .int a2, .int a3] h (fun v h1 => ∃ r : Int32, v = some (.int r) ∧ lJ G Z (pc + 3) x (.int r :: st) h1)) : lJ G Z pc x (.int a3 :: .int a2 :: .int a1 :: .ref (G.2.2.1 bb) :: st) h := l_call [.int a1, .int a2, .int a3] rfl hd hY rfl ho hci hst k
end LR
