/-! the law from its entry; the claim -/
theorem l_init {G : dh_G} {p : Program} {e : Env} {s : State} {m : MethodId} {below : List Frame} {meth : Method} {c : Code} {b L : Nat} {xs : Nat → Int32} {H : Heap} {locs : List Loc} {k n pc ix mc ms bb : Nat} {ls : Array Slot} {st : List Value} {Q : State → Prop} {Y : dh_M} {ws wc wr : va_W} {Qc : va_W → Prop} {A : Nat → Prop} (C0 : lw_At p s m meth c b L xs) (hW0 : kW G s) (isC isR : List Nat) (hd : decode code pc = .ok (.invokespecial ix, 3)) (y1 : Cond.methodLink R_law ix Y.1 ∈ dh_cw) (y2 : Cond.code Y.1 Y.2.1 Y.2.2.1 none ∈ dh_cw) (y2' : Y.2.2.2.1 = none) (y3 : Cond.initialized Y.1.cls ∈ dh_cw) (y4 : Y.1.cls ≠ "java/lang/invoke/MethodHandle" ∧ Y.1.cls ≠ "java/lang/invoke/VarHandle") (y5 : (parseMethodDescriptor Y.1.desc).map (fun d => d.parameters.length) = some 0) (y6 : Y.2.2.2.2 ≤ 7) (y7 : Y.2.2.1 ≤ 17) (y8 : Cond.instanceMethod Y.1 ∈ dh_cw) (y9 : Y.1.name = "<init>")
    (hM : kC G Y mc ms [.ref bb] wc Qc) (hP : va_P G.2.1 vwCl ws H) (hD : va_D A ws) (hS : va_S A s.heap H locs) (hA : ∀ q, s.heap.size ≤ q → A q) (hC : isC.map (fun i => ws[i]?) = wc.map some) (hC' : isC.filterMap (fun i => ws[i]?) = wc) (hR : isR.map (fun i => ws[i]?) = wr.map some) (hnC : va_nd isC = true) (hnR : va_nd isR = true) (hdis : ∀ i ∈ isR, i ∉ isC) (hst : (st.map fun v => v.category).sum ≤ 8) (hls : ls.size = 4) (hk : k + mc ≤ 600000) (hs : n + ms ≤ 7302250)
    (kk : ∀ (w1 : va_W) (H1 : Heap) (locs1 : List Loc), Qc w1 → va_P G.2.1 vwCl (wr ++ w1) H1 → va_D A (wr ++ w1) → va_S A s.heap H1 locs1 → W p G.1 e room_1 s m #[Value.ref b] below meth c H1 locs1 (k + mc) (n + ms) Q (F0 m (pc + 3) ls st)) : W p G.1 e room_1 s m #[Value.ref b] below meth c H locs k n Q (F0 m pc ls (.ref bb :: st)) := by
  have hts : ∀ w ∈ dh_cw, w.before #[Value.ref b] s = true := fun w hw => C0.2.2.2.2.2.1 w (List.mem_filter.mp hw).1
  have hlen : ∀ sig, parseMethodDescriptor Y.1.desc = some sig → 0 = sig.parameters.length := fun sig g => by rw [g] at y5; exact (Option.some.inj y5).symm
  have hPc := hP.sub (ws' := wc) isC hC'
  have hDc := (hD.sub (ws' := wc) isC hnC hC).weaken (B := fun _ => True) (fun _ _ _ _ => trivial)
  have hFc := va_free (wc := wc) hD hS hA isC hC
  have hwr : ∀ w ∈ dh_ws Y, ∀ (a' : Array Value) (U : State), s.WarmedH U.vm → w.before a' U = true := dh_good hts (Y := Y) (by rw [y2']; exact y2)
  have hin : Cond.code Y.1 Y.2.1 Y.2.2.1 none ∈ dh_ws Y := by
    show Cond.code Y.1 Y.2.1 Y.2.2.1 none ∈ Cond.code Y.1 Y.2.1 Y.2.2.1 Y.2.2.2.1 :: dh_cw
    rw [y2']
    exact List.mem_cons_self
  have hRf : (kR Y mc ms).frames + 1 ≤ room_1.frames := by show Y.2.2.2.2 + 1 ≤ 9; omega
  have hRl : 8 + (Y.2.2.1 + 11) + (kR Y mc ms).locals ≤ room_1.locals := by show 8 + (Y.2.2.1 + 11) + 36 * Y.2.2.2.2 ≤ 326; omega
  refine va_callv (va_runI (As := []) (rest := st) (b := bb) (n := 0) (bytes := Y.2.1) (maxL := Y.2.2.1) ⟨C0.1, C0.2.1, C0.2.2.2.1, C0.2.2.2.2.1, hts⟩ (hM H.size) ⟨⟨rfl, rfl, hRf, hRl, hwr, hin, hts _ y2, hts _ y3, y4, hlen, hts _ y1⟩, y9, hts _ y8⟩ (kW_pre hW0 hPc hDc) rfl rfl hls rfl (by show 2 * 0 + _ ≤ 8; omega) hd ⟨hk, hs⟩) hS (fun q _ h => hFc q h) hFc (fun w1 t H1 locs1 ht hvm hw hB hz1 hk1 hS1 => ?_)
  obtain ⟨hP1, hD1⟩ := hB
  rw [ht] at hP1
  obtain ⟨hP2, hD2⟩ := va_join (wr := wr) (w1 := w1) hP hD isC isR hC hR hnR hdis hk1 hFc hP1 hD1
  exact kk w1 H1 locs1 hw hP2 hD2 hS1
set_option maxRecDepth 100000 in
set_option maxHeartbeats 4000000 in
/-- THE LAW, from its entry -/
theorem whole_start {p : Program} {e : Env} {s : State} {m : MethodId} {below : List Frame} {meth : Method} {c : Code} (l : Launch) {b L : Nat} {xs : Nat → Int32} (hL : L ≤ 256) (C0 : lw_At p s m meth c b L xs) : W p l e room_1 s m #[Value.ref b] below meth c s.heap [] 0 0 (lw_Z below #[Value.ref b] s) (entryFrame m ([Value.ref b] : List Value).toArray 4) := by
  obtain ⟨hx, hb, hr, hml, hown, hts, hX, hbl, hlocks, hgv⟩ := id C0
  have htc : ∀ w ∈ dh_cw, w.before #[Value.ref b] s = true := fun w hw => hts w (List.mem_filter.mp hw).1
  have hA : ∀ q : Nat, s.heap.size ≤ q → (fun q : Nat => s.heap.size ≤ q) q := fun _ h => h
  obtain ⟨dC, dI, hKc⟩ := l_cls htc
  obtain ⟨ar, hW⟩ := l_arr (l := l) (D := (dC, dI)) hts hKc
  have hW0 := hW (fun _ => 0)
  have hK := hW0.1
  have hS : va_S (fun q : Nat => s.heap.size ≤ q) s.heap s.heap [] := va_S.rf
  have hP : va_P (dC, dI) vwCl [] s.heap := fun k q h => by simp at h
  have hD : va_D (fun q : Nat => s.heap.size ≤ q) [] := ⟨fun i j p q h => by simp at h, fun k q h => by simp at h⟩
  have hl := lv_entry ([.ref b]) (n := 4) (Nat.le_of_ble_eq_true rfl)
  rw [lg_entry_eq]
  generalize (lg_sl ([.ref b]) ++ List.replicate (4 - (lg_sl ([.ref b])).length) Slot.unset).toArray = ls at hl ⊢
  have hl : lv_has ls 4 [(0, .ref b)] := hl
  refine va_new (ci := 9) (fs := [.null, .null, .null, .null, .null, .null, .null, .null, .null, .null, .null]) hx hb htc inC9 tyX9 tyX9_ok hown (htc (.classLink R_law 7 RX9) (dh_in 15 (by decide +kernel) rfl)) (htc (.instantiable RX9 11) (dh_in 16 (by decide +kernel) rfl)) (htc (.initialized RX9) (dh_in 1 (by decide +kernel) rfl)) hK hP hD hS hA rfl kdf_9 (Nat.le_of_ble_eq_true rfl) (Nat.le_of_ble_eq_true rfl) dL_law_0 (fun q0 H hP hD hS => ?_)
  refine lv_dup hx hb dL_law_3 rfl ?_
  refine l_init (wr := []) C0 hW0 [0] [] dL_law_4 (dh_in 17 (by decide +kernel) rfl) (dh_in 19 (by decide +kernel) rfl) rfl (dh_in 1 (by decide +kernel) rfl) (by decide) (by decide +kernel) (by decide) (by decide) (dh_in 18 (by decide +kernel) rfl) rfl (k_X9_init (l, (dC, dI), fun _ => 0, ar) q0) hP hD hS hA rfl rfl rfl rfl rfl (by decide) (Nat.le_of_ble_eq_true rfl) hl.1 (Nat.le_of_ble_eq_true rfl) (Nat.le_of_ble_eq_true rfl) (fun w1 H locs1 hw1 hP hD hS => ?_)
  obtain ⟨q1, q2, q3, q4, q5, q6, q7, q8, q9, q10, q11, q12, q13, q14, q15, q16, q17, q18, q19, q20, q21, q22, q23, q24, q25, q26, q27, q28, q29, q30, q31, q32, q33, q34, q35, q36, q37, q38, q39, q40, q41, q42, q43, q44, q45, q46, q47, q48, q49, q50, q51, q52, q53, q54, q55, q56, q57, q58, q59, q60, rfl⟩ := hw1
  refine lv_astore_n (lv' := [(1, .ref q0), (0, .ref b)]) hx hb dL_law_7 rfl hl (by decide) rfl (fun ls hl => ?_)
  refine va_new (ci := 10) (fs := [.int 0, .null, .int 0, .int 0, .int 0, .int 0, .int 0, .int 0, .int 0, .int 0, .int 0, .int 0, .int 0, .int 0, .null, .null, .int 0, .int 0, .int 0, .int 0, .int 0, .null, .null, .null, .null, .null, .int 0, .null, .null, .null, .int 0, .int 0, .null, .int 0, .null, .null, .null, .null, .null]) hx hb htc inC10 tyX10 tyX10_ok hown (htc (.classLink R_law 10 RX10) (dh_in 754 (by decide +kernel) rfl)) (htc (.instantiable RX10 39) (dh_in 755 (by decide +kernel) rfl)) (htc (.initialized RX10) (dh_in 11 (by decide +kernel) rfl)) hK hP hD hS hA rfl kdf_10 (Nat.le_of_ble_eq_true rfl) (Nat.le_of_ble_eq_true rfl) dL_law_8 (fun q61 H hP hD hS => ?_)
  refine lv_dup hx hb dL_law_11 rfl ?_
  refine l_init (wr := [(q0, .inr (9, [.ref q1, .ref q3, .ref q11, .ref q19, .ref q25, .ref q27, .ref q37, .ref q51, .ref q54, .ref q55, .ref q60])), (q1, .inr (6, [.ref q2, .int 0, .int 0, .int 0, .int 0, .int (-1)])), (q2, .inl (ar 0, 240, .inl (fun _ => 0))), (q3, .inr (5, [.int 0, .int 0, .int 0, .int 0, .int 0, .ref q4, .ref q5, .ref q6, .ref q7, .ref q8, .ref q9, .ref q10])), (q4, .inl (ar 0, 6, .inl (fun _ => 0))), (q5, .inl (ar 0, 6, .inl (fun _ => 0))), (q6, .inl (ar 0, 6, .inl (fun _ => 0))), (q7, .inl (ar 0, 6, .inl (fun _ => 0))), (q8, .inl (ar 0, 6, .inl (fun _ => 0))), (q9, .inl (ar 0, 6, .inl (fun _ => 0))), (q10, .inl (ar 0, 6, .inl (fun _ => 0))), (q11, .inr (5, [.int 0, .int 0, .int 0, .int 0, .int 0, .ref q12, .ref q13, .ref q14, .ref q15, .ref q16, .ref q17, .ref q18])), (q12, .inl (ar 0, 6, .inl (fun _ => 0))), (q13, .inl (ar 0, 6, .inl (fun _ => 0))), (q14, .inl (ar 0, 6, .inl (fun _ => 0))), (q15, .inl (ar 0, 6, .inl (fun _ => 0))), (q16, .inl (ar 0, 6, .inl (fun _ => 0))), (q17, .inl (ar 0, 6, .inl (fun _ => 0))), (q18, .inl (ar 0, 6, .inl (fun _ => 0))), (q19, .inr (8, [.ref q3, .int 0, .ref q20, .ref q21, .ref q22, .ref q23, .ref q24])), (q20, .inl (ar 0, 6, .inl (fun _ => 0))), (q21, .inl (ar 0, 6, .inl (fun _ => 0))), (q22, .inl (ar 0, 6, .inl (fun _ => 0))), (q23, .inl (ar 0, 6, .inl (fun _ => 0))), (q24, .inl (ar 0, 6, .inl (fun _ => 0))), (q25, .inr (4, [.ref q26, .int 0, .int 0])), (q26, .inl (ar 0, 620, .inl (fun _ => 0))), (q27, .inr (3, [.int 0, .int 0, .ref q28, .ref q29])), (q28, .inl (ar 0, 6, .inl (fun _ => 0))), (q29, .inl (ar 3, 7, .inr (.inr (.inr (.inr (fun j => ([q30, q31, q32, q33, q34, q35, q36] : List Nat)[j]?)))))), (q30, .inl (ar 0, 64, .inl (fun _ => 0))), (q31, .inl (ar 0, 64, .inl (fun _ => 0))), (q32, .inl (ar 0, 64, .inl (fun _ => 0))), (q33, .inl (ar 0, 64, .inl (fun _ => 0))), (q34, .inl (ar 0, 64, .inl (fun _ => 0))), (q35, .inl (ar 0, 64, .inl (fun _ => 0))), (q36, .inl (ar 0, 64, .inl (fun _ => 0))), (q37, .inr (7, [.ref q3, .int 0, .ref q38, .ref q39, .ref q40, .ref q41, .int 0, .ref q42, .ref q43, .ref q44])), (q38, .inl (ar 0, 8, .inl (fun _ => 0))), (q39, .inl (ar 0, 8, .inl (fun _ => 0))), (q40, .inl (ar 1, 8, .inl (fun _ => 0))), (q41, .inl (ar 0, 6, .inl (fun _ => 0))), (q42, .inl (ar 0, 64, .inl (fun _ => 0))), (q43, .inl (ar 0, 64, .inl (fun _ => 0))), (q44, .inl (ar 3, 6, .inr (.inr (.inr (.inr (fun j => ([q45, q46, q47, q48, q49, q50] : List Nat)[j]?)))))), (q45, .inl (ar 0, 6, .inl (fun _ => 0))), (q46, .inl (ar 0, 6, .inl (fun _ => 0))), (q47, .inl (ar 0, 6, .inl (fun _ => 0))), (q48, .inl (ar 0, 6, .inl (fun _ => 0))), (q49, .inl (ar 0, 6, .inl (fun _ => 0))), (q50, .inl (ar 0, 6, .inl (fun _ => 0))), (q51, .inr (0, [.int 0, .ref q52, .ref q53])), (q52, .inl (ar 0, 15, .inl (fun _ => 0))), (q53, .inl (ar 0, 15, .inl (fun _ => 0))), (q54, .inr (1, [.int 0])), (q55, .inl (ar 2, 2, .inr (.inr (.inr (.inr (va_up (va_up (fun _ => none) (nI 0).toNatClampNeg (some q56)) (nI 1).toNatClampNeg (some q58))))))), (q56, .inr (2, [.int 0, .int 0, .ref q57])), (q57, .inl (ar 0, 31, .inl (fun _ => 0))), (q58, .inr (2, [.int 0, .int 0, .ref q59])), (q59, .inl (ar 0, 31, .inl (fun _ => 0))), (q60, .inl (ar 0, 20, .inl (fun _ => 0)))]) C0 hW0 [61] [0, 1, 2, 3, 4, 5, 6, 7, 8, 9, 10, 11, 12, 13, 14, 15, 16, 17, 18, 19, 20, 21, 22, 23, 24, 25, 26, 27, 28, 29, 30, 31, 32, 33, 34, 35, 36, 37, 38, 39, 40, 41, 42, 43, 44, 45, 46, 47, 48, 49, 50, 51, 52, 53, 54, 55, 56, 57, 58, 59, 60] dL_law_12 (dh_in 756 (by decide +kernel) rfl) (dh_in 758 (by decide +kernel) rfl) rfl (dh_in 11 (by decide +kernel) rfl) (by decide) (by decide +kernel) (by decide) (by decide) (dh_in 757 (by decide +kernel) rfl) rfl (k_X10_init (l, (dC, dI), fun _ => 0, ar) q61) hP hD hS hA rfl rfl rfl rfl rfl (by decide) (Nat.le_of_ble_eq_true rfl) hl.1 (Nat.le_of_ble_eq_true rfl) (Nat.le_of_ble_eq_true rfl) (fun w1 H locs2 hw1 hP hD hS => ?_)
  obtain ⟨q62, q63, q64, q65, q66, q67, q68, q69, q70, q71, q72, q73, q74, q75, q76, q77, q78, rfl⟩ := hw1
  refine lv_astore_n (lv' := [(2, .ref q61), (1, .ref q0), (0, .ref b)]) hx hb dL_law_15 rfl hl (by decide) rfl (fun ls hl => ?_)
  refine lv_iconst (v := nI 0) hx hb dL_law_16 (by decide) ?_
  refine lv_istore_n (lv' := [(3, .int (nI 0)), (2, .ref q61), (1, .ref q0), (0, .ref b)]) hx hb dL_law_17 rfl hl (by decide) rfl (fun ls hl => ?_)
  obtain ⟨ad, had⟩ : ∃ ad : Nat → Nat, ad = fun i => ([q0, q1, q2, q3, q4, q5, q6, q7, q8, q9, q10, q11, q12, q13, q14, q15, q16, q17, q18, q19, q20, q21, q22, q23, q24, q25, q26, q27, q28, q29, q30, q31, q32, q33, q34, q35, q36, q37, q38, q39, q40, q41, q42, q43, q44, q45, q46, q47, q48, q49, q50, q51, q52, q53, q54, q55, q56, q57, q58, q59, q60, q61, q62, q63, q64, q65, q66, q67, q68, q69, q70, q71, q72, q73, q74, q75, q76, q77, q78] : List Nat).getD i 0 := ⟨_, rfl⟩
  have hw : dh_W (l, (dC, dI), ad, ar) l_h0 = ([(q0, .inr (9, [.ref q1, .ref q3, .ref q11, .ref q19, .ref q25, .ref q27, .ref q37, .ref q51, .ref q54, .ref q55, .ref q60])), (q1, .inr (6, [.ref q2, .int 0, .int 0, .int 0, .int 0, .int (-1)])), (q2, .inl (ar 0, 240, .inl (fun _ => 0))), (q3, .inr (5, [.int 0, .int 0, .int 0, .int 0, .int 0, .ref q4, .ref q5, .ref q6, .ref q7, .ref q8, .ref q9, .ref q10])), (q4, .inl (ar 0, 6, .inl (fun _ => 0))), (q5, .inl (ar 0, 6, .inl (fun _ => 0))), (q6, .inl (ar 0, 6, .inl (fun _ => 0))), (q7, .inl (ar 0, 6, .inl (fun _ => 0))), (q8, .inl (ar 0, 6, .inl (fun _ => 0))), (q9, .inl (ar 0, 6, .inl (fun _ => 0))), (q10, .inl (ar 0, 6, .inl (fun _ => 0))), (q11, .inr (5, [.int 0, .int 0, .int 0, .int 0, .int 0, .ref q12, .ref q13, .ref q14, .ref q15, .ref q16, .ref q17, .ref q18])), (q12, .inl (ar 0, 6, .inl (fun _ => 0))), (q13, .inl (ar 0, 6, .inl (fun _ => 0))), (q14, .inl (ar 0, 6, .inl (fun _ => 0))), (q15, .inl (ar 0, 6, .inl (fun _ => 0))), (q16, .inl (ar 0, 6, .inl (fun _ => 0))), (q17, .inl (ar 0, 6, .inl (fun _ => 0))), (q18, .inl (ar 0, 6, .inl (fun _ => 0))), (q19, .inr (8, [.ref q3, .int 0, .ref q20, .ref q21, .ref q22, .ref q23, .ref q24])), (q20, .inl (ar 0, 6, .inl (fun _ => 0))), (q21, .inl (ar 0, 6, .inl (fun _ => 0))), (q22, .inl (ar 0, 6, .inl (fun _ => 0))), (q23, .inl (ar 0, 6, .inl (fun _ => 0))), (q24, .inl (ar 0, 6, .inl (fun _ => 0))), (q25, .inr (4, [.ref q26, .int 0, .int 0])), (q26, .inl (ar 0, 620, .inl (fun _ => 0))), (q27, .inr (3, [.int 0, .int 0, .ref q28, .ref q29])), (q28, .inl (ar 0, 6, .inl (fun _ => 0))), (q29, .inl (ar 3, 7, .inr (.inr (.inr (.inr (fun j => ([q30, q31, q32, q33, q34, q35, q36] : List Nat)[j]?)))))), (q30, .inl (ar 0, 64, .inl (fun _ => 0))), (q31, .inl (ar 0, 64, .inl (fun _ => 0))), (q32, .inl (ar 0, 64, .inl (fun _ => 0))), (q33, .inl (ar 0, 64, .inl (fun _ => 0))), (q34, .inl (ar 0, 64, .inl (fun _ => 0))), (q35, .inl (ar 0, 64, .inl (fun _ => 0))), (q36, .inl (ar 0, 64, .inl (fun _ => 0))), (q37, .inr (7, [.ref q3, .int 0, .ref q38, .ref q39, .ref q40, .ref q41, .int 0, .ref q42, .ref q43, .ref q44])), (q38, .inl (ar 0, 8, .inl (fun _ => 0))), (q39, .inl (ar 0, 8, .inl (fun _ => 0))), (q40, .inl (ar 1, 8, .inl (fun _ => 0))), (q41, .inl (ar 0, 6, .inl (fun _ => 0))), (q42, .inl (ar 0, 64, .inl (fun _ => 0))), (q43, .inl (ar 0, 64, .inl (fun _ => 0))), (q44, .inl (ar 3, 6, .inr (.inr (.inr (.inr (fun j => ([q45, q46, q47, q48, q49, q50] : List Nat)[j]?)))))), (q45, .inl (ar 0, 6, .inl (fun _ => 0))), (q46, .inl (ar 0, 6, .inl (fun _ => 0))), (q47, .inl (ar 0, 6, .inl (fun _ => 0))), (q48, .inl (ar 0, 6, .inl (fun _ => 0))), (q49, .inl (ar 0, 6, .inl (fun _ => 0))), (q50, .inl (ar 0, 6, .inl (fun _ => 0))), (q51, .inr (0, [.int 0, .ref q52, .ref q53])), (q52, .inl (ar 0, 15, .inl (fun _ => 0))), (q53, .inl (ar 0, 15, .inl (fun _ => 0))), (q54, .inr (1, [.int 0])), (q55, .inl (ar 2, 2, .inr (.inr (.inr (.inr (va_up (va_up (fun _ => none) (nI 0).toNatClampNeg (some q56)) (nI 1).toNatClampNeg (some q58))))))), (q56, .inr (2, [.int 0, .int 0, .ref q57])), (q57, .inl (ar 0, 31, .inl (fun _ => 0))), (q58, .inr (2, [.int 0, .int 0, .ref q59])), (q59, .inl (ar 0, 31, .inl (fun _ => 0))), (q60, .inl (ar 0, 20, .inl (fun _ => 0))), (q61, .inr (10, [.int 0, .ref q62, .int 0, .int 0, .int 0, .int 0, .int 0, .int (-1), .int 0, .int 0, .int 0, .int 0, .int 0, .int 0, .ref q63, .ref q64, .int 0, .int 0, .int 0, .int 0, .int 0, .ref q65, .ref q66, .ref q67, .ref q68, .ref q69, .int 0, .ref q70, .ref q71, .ref q72, .int 0, .int 0, .ref q73, .int 0, .ref q74, .ref q75, .ref q76, .ref q77, .ref q78])), (q62, .inl (ar 0, 240, .inl (fun _ => 0))), (q63, .inl (ar 0, 12, .inl (fun _ => 0))), (q64, .inl (ar 0, 24, .inl (fun _ => 0))), (q65, .inl (ar 0, 12, .inl (fun _ => 0))), (q66, .inl (ar 0, 24, .inl (fun _ => 0))), (q67, .inl (ar 0, 6, .inl (fun _ => 0))), (q68, .inl (ar 0, 32, .inl (fun _ => 0))), (q69, .inl (ar 0, 640, .inl (fun _ => 0))), (q70, .inl (ar 0, 64, .inl (fun _ => 0))), (q71, .inl (ar 0, 2, .inl (fun _ => 0))), (q72, .inl (ar 1, 2, .inl (fun _ => 0))), (q73, .inl (ar 0, 24, .inl (fun _ => 0))), (q74, .inl (ar 0, 30, .inl (fun _ => 0))), (q75, .inl (ar 0, 6, .inl (fun _ => 0))), (q76, .inl (ar 0, 6, .inl (fun _ => 0))), (q77, .inl (ar 0, 20, .inl (fun _ => 0))), (q78, .inl (ar 0, 36, .inl (fun _ => 0)))] : va_W) := by
    rw [l_wld, had]
    rfl
  have hP : va_P (dC, dI) vwCl (dh_W (l, (dC, dI), ad, ar) l_h0) H := by rw [hw]; exact hP
  have hD : va_D (fun q : Nat => s.heap.size ≤ q) (dh_W (l, (dC, dI), ad, ar) l_h0) := by rw [hw]; exact hD
  have e0 : q0 = ad 0 := by rw [had]; rfl
  have e61 : q61 = ad 61 := by rw [had]; rfl
  rw [e0, e61] at hl
  refine W.widen (k := 79) (n := 3043) (by decide) (by decide) ?_
  have at' : ∀ i, i < dh_LAY.length → ∃ z, (dh_W (l, (dC, dI), ad, ar) l_h0)[i]? = some (ad i, z) := fun i hi => ⟨_, dh_W_at (List.getElem?_eq_getElem hi)⟩
  refine l_loop (G := (l, (dC, dI), ad, ar)) (Z := (p, e, s, m, below, meth, c, b, L, xs)) hL (L + 4) 0 l_h0 (Nat.zero_le _) (by show L + 4 - 0 ≤ L + 4; omega) l_Inv0 H locs2 ls ⟨C0, (hW ad).1, (hW ad).2.1, ?_, ?_⟩ hP hS hl
  · intro i j hi hj hij
    obtain ⟨z1, h1⟩ := at' i hi
    obtain ⟨z2, h2⟩ := at' j hj
    exact hD.1 i j _ _ h1 h2 hij
  · rintro q ⟨i, hi, rfl⟩
    obtain ⟨z1, h1⟩ := at' i hi
    exact hD.2 i _ h1
set_option maxHeartbeats 4000000 in
theorem lw_walk (l : Launch) (b : Addr) (xs : List Int32) : MetFree l x (headSpec (Jvm.Cond.code x code maxLocals ret :: tables_1) room_1) (lw_P b xs) (fun _ _ _ _ _ => True) lw_Q := by
  refine MetFree.of_bodyS (code := code) (maxLocals := maxLocals) (ret := ret) (by decide) ?_ ?_
  · intro args s m h hn
    obtain ⟨meth, c, h1, h2, h3, h4, h5, h6, -, -⟩ := Cond.code_spec hn (atoms_spec (ws := Jvm.Cond.code x code maxLocals ret :: tables_1) h _ List.mem_cons_self)
    exact ⟨meth, c, h1, h2, h3, h4, h5, h6⟩
  · intro p e s m args below meth c s₁ B hml0 hP _
    obtain ⟨rfl, hx, hbd, hgv⟩ := hP
    obtain ⟨scr, harrAt, hlist, hof, hsmall⟩ := hx
    obtain ⟨hcb, hkn, -, -⟩ := State.arrayAt?_spec harrAt
    have hown : s.vm.findClass R_law = some m.cls := findClass_of_methodNamed B.named
    have hts0 : ∀ c ∈ (Jvm.Cond.code x code maxLocals ret :: tables_1), c.before #[Value.ref b] s = true := atoms_spec (ws := Jvm.Cond.code x code maxLocals ret :: tables_1) B.pre
    have hts : ∀ w ∈ lw_tbl, w.before #[Value.ref b] s = true := k2_hts_sels lw_privs (fun w hw => hts0 w (List.mem_cons_of_mem _ hw)) lw_privs_ok
    have hml : c.maxLocals = 4 := B.maxLocals_eq (hts0 _ List.mem_cons_self)
    have X₀ : Stand p l e room_1 s m #[Value.ref b] below meth c s₁ [] 0 0 := Stand.of_body B
    have hh0 : s₁.heap = s.heap := by rw [B.state]; rfl
    have hsz : scr.slots.size = xs.length := by rw [← Array.length_toList, hlist, List.length_map]
    have hval : ∀ j : Nat, j < xs.length → scr.slots[j]? = some (.int (xs.getD j 0)) := fun j hj => by
      rw [← Array.getElem?_toList, hlist]
      simp [hj]
    have hbl : b < s.heap.size := (Array.getElem?_eq_some_iff.mp hcb).1
    have hX : va_X b xs.length (fun j => xs.getD j 0) s s.heap := ⟨scr, hcb, hof, hkn, hsz, hval⟩
    have K : W p l e room_1 s m #[Value.ref b] below meth c s₁.heap [] 0 0 (lw_Z below #[Value.ref b] s) (entryFrame m ([Value.ref b] : List Value).toArray 4) := by
      rw [hh0]
      exact whole_start l hbd ⟨B.exec, B.bytes, B.returns, hml, hown, hts, hX, hbl, B.notSynchronized, hgv⟩
    obtain ⟨t, a1, o, b1, b2, b3⟩ := K s₁ rfl X₀
    exact ⟨t, o, a1, b1, b2, b3⟩
theorem lw_pre_spec {args : Array Value} {s : State} (h : (Jvm.Cond.and given_1 narrow_1).before args s = true) (hr : rest_1_c.before args s = true) : ∃ (b : Addr) (xs : List Int32), lw_P b xs args s := by
  have hs := flat_of_before _ h
  have hq := flat_of_before _ hr
  have hc : (Cond.count 1).before args s = true := hs _ (by decide +kernel)
  have harr : (Cond.arrayOf (.arg 0) .int).before args s = true := hs _ (by decide +kernel)
  have hle : (Cond.le (.length (.arg 0)) (.int 256)).before args s = true := hs _ (by decide +kernel)
  have hlen : (Cond.isInt (.length (.arg 0))).before args s = true := hq _ (by decide +kernel)
  have hall : (Cond.all (.arg 0) (.isInt (.elem (.arg 0) (.index 0)))).before args s = true := hq _ (by decide +kernel)
  obtain ⟨b, xs, hb, hx⟩ := State.ints_of_pre rfl harr hlen hall
  have hsm : xs.length < 2 ^ 31 := hx.choose_spec.2.2.2
  have hev : (Term.length (.arg 0)).eval args s none [] s = some (.int xs.length.toInt32) := hx.length_eval hb
  have hv := Cond.le_ints hev (show (Term.int 256).eval args s none [] s = some (.int 256) from rfl)
  have hd : xs.length.toInt32 ≤ 256 := by
    simpa [Cond.before, Cond.holds, hv] using hle
  have hN : xs.length ≤ 256 := (Int32.ofNat_le_ofNat hsm (by decide)).mp (show Int32.ofNat xs.length ≤ Int32.ofNat 256 from hd)
  exact ⟨b, xs, Cond.one_arg hc (show args[0]? = some (.ref b) from hb), hx, hN, h⟩
theorem lw_comes (l : Launch) : Comes l x (Jvm.Cond.code x code maxLocals ret :: tables_1) room_1 (fun tb e args s => Calls_1 tb e args s ∧ rest_1 tb e args s ∧ Pre_1 tb e args s)
    (fun _ _ args s o t => lw_Q args s o t) := by
  intro p e ha hc hk s m args below hf hfit hheap happ hpre
  obtain ⟨b, xs, hP⟩ := lw_pre_spec hpre.2.2 hpre.2.1
  obtain ⟨k, o, h1, h2, h3, hQ⟩ := lw_walk l b xs p e ha hc hk s m args below hf ((Spec.applies_iff_loose hf).mp happ).1 hP trivial
  exact ⟨k, o, h1, h2, h3, hQ⟩
theorem lw_frame {s t : State} {o : Outcome} {args : Array Value} (h : Framed s o t [] 600000 7302250) :
    Framed s o t (fieldLocs frame_1_writes args s ++ arrayLocs frame_1_arrays args s ++ staticLocs frame_1_statics s) 600000 7302250 := h
theorem lw_limb (L : Cond) (hL : ∀ (args : Array Value) (s t : State), L.after args s (.returned (some (.int 1))) t = true) :
    ArmFor flags0 classFile x code maxLocals ret World_1 tables_1 room_1 Calls_1 rest_1 Pre_1
      (fun tb e a s o t => postC L tb e a s o t ∧ Framed s o t (fieldLocs frame_1_writes a s ++ arrayLocs frame_1_arrays a s ++ staticLocs frame_1_statics s) 600000 7302250) := by
  intro l _ _ _ p e ha hc hk s m args below hf hfit hheap happ hpre
  obtain ⟨k, o, h1, h2, h3, rfl, hF⟩ := lw_comes l p e ha hc hk s m args below hf hfit hheap happ hpre
  exact ⟨k, _, h1, h2, h3, hL args s _, lw_frame hF⟩
theorem i_vc : Claimed_1_1 ∧ Claimed_1_2 := ⟨lw_limb limb_1_1 (fun args s t => by simp [limb_1_1, Cond.after, Cond.holds, Cond.value]), lw_limb limb_1_2 (fun args s t => Cond.after_iff.mpr (by
  first | (rw [show limb_1_2 = Cond.eq .result (.int 1) from rfl, Cond.eq_ints (x := 1) (y := 1) rfl rfl]; simp; done) | (simp [limb_1_2, Cond.value, Term.eval]; done)))⟩
