/-! pairs: told, child, dummy -/
section S4
variable {G : dh_G} {h g : dh_H} {C D : Nat} {Q : Option Value → dh_H → Prop}
theorem sim_told {x : Int32} (I : Inv h) : SM G mX9_told mX10_told [.int x] h := by
  have J := I
  obtain ⟨C, D, R⟩ := I
  obtain ⟨r1, r2, r3, r4, ⟨t0, b, r5⟩, ⟨s, r6⟩, r7, ⟨T, r8⟩, ⟨E, r9⟩, ⟨L, r10⟩⟩ := R
  have hC := r2.2.1
  have hD := r2.2.2.2.1
  refine e_X9_told ⟨fun q => ⟨_, rfl, e_X10_told ⟨fun _ => ⟨rfl, J⟩, fun z => absurd q (by rw [z]; decide), fun z => absurd q (by rw [z]; decide), fun z => absurd q (by rw [z]; decide), fun z => absurd q (by rw [z]; decide), fun z => absurd q (by rw [z]; decide), fun z => absurd q (by rw [z]; decide), fun z => absurd q (by rw [z]; decide), fun z => absurd q (by rw [z]; decide), fun z => absurd q (by rw [z]; decide), fun z => absurd q (by rw [z]; decide), fun z => absurd q (by rw [z]; decide), fun z => absurd q (by rw [z]; decide), fun z => absurd q (by rw [z]; decide)⟩⟩, fun q => ?_, fun q => ?_, fun q => ?_, fun q => ?_, fun q => ?_, fun q => ?_, fun q => ?_, fun q => ?_, fun q => ?_, fun q => ?_, fun q => ?_, fun q => ?_, fun q => ?_⟩
  · subst q
    exact ⟨_, rfl, e_X10_told ⟨fun z => absurd z (by decide), fun _ => ⟨congrArg (fun x => some (Value.int x)) (r3.2.2.1.1.symm), J⟩, fun z => absurd z (by decide), fun z => absurd z (by decide), fun z => absurd z (by decide), fun z => absurd z (by decide), fun z => absurd z (by decide), fun z => absurd z (by decide), fun z => absurd z (by decide), fun z => absurd z (by decide), fun z => absurd z (by decide), fun z => absurd z (by decide), fun z => absurd z (by decide), fun z => absurd z (by decide)⟩⟩
  · subst q
    exact ⟨_, rfl, e_X10_told ⟨fun z => absurd z (by decide), fun z => absurd z (by decide), fun _ => ⟨congrArg (fun x => some (Value.int x)) (r3.2.2.2.1.symm), J⟩, fun z => absurd z (by decide), fun z => absurd z (by decide), fun z => absurd z (by decide), fun z => absurd z (by decide), fun z => absurd z (by decide), fun z => absurd z (by decide), fun z => absurd z (by decide), fun z => absurd z (by decide), fun z => absurd z (by decide), fun z => absurd z (by decide), fun z => absurd z (by decide)⟩⟩
  · subst q
    exact ⟨_, rfl, e_X10_told ⟨fun z => absurd z (by decide), fun z => absurd z (by decide), fun z => absurd z (by decide), fun _ => ⟨congrArg (fun x => some (Value.int x)) (r1.1.trans r2.1.symm), J⟩, fun z => absurd z (by decide), fun z => absurd z (by decide), fun z => absurd z (by decide), fun z => absurd z (by decide), fun z => absurd z (by decide), fun z => absurd z (by decide), fun z => absurd z (by decide), fun z => absurd z (by decide), fun z => absurd z (by decide), fun z => absurd z (by decide)⟩⟩
  · subst q
    exact ⟨_, rfl, e_X10_told ⟨fun z => absurd z (by decide), fun z => absurd z (by decide), fun z => absurd z (by decide), fun z => absurd z (by decide), fun _ => ⟨congrArg (fun x => some (Value.int x)) (r1.2.2.1.trans r2.2.2.1.symm), J⟩, fun z => absurd z (by decide), fun z => absurd z (by decide), fun z => absurd z (by decide), fun z => absurd z (by decide), fun z => absurd z (by decide), fun z => absurd z (by decide), fun z => absurd z (by decide), fun z => absurd z (by decide), fun z => absurd z (by decide)⟩⟩
  · subst q
    exact ⟨_, rfl, e_X10_told ⟨fun z => absurd z (by decide), fun z => absurd z (by decide), fun z => absurd z (by decide), fun z => absurd z (by decide), fun z => absurd z (by decide), fun _ => ⟨congrArg (fun x => some (Value.int x)) (r10.2.1.trans r10.1.symm), J⟩, fun z => absurd z (by decide), fun z => absurd z (by decide), fun z => absurd z (by decide), fun z => absurd z (by decide), fun z => absurd z (by decide), fun z => absurd z (by decide), fun z => absurd z (by decide), fun z => absurd z (by decide)⟩⟩
  · subst q
    exact ⟨_, rfl, e_X10_told ⟨fun z => absurd z (by decide), fun z => absurd z (by decide), fun z => absurd z (by decide), fun z => absurd z (by decide), fun z => absurd z (by decide), fun z => absurd z (by decide), fun _ => ⟨congrArg (fun x => some (Value.int x)) (r4.1.symm), J⟩, fun z => absurd z (by decide), fun z => absurd z (by decide), fun z => absurd z (by decide), fun z => absurd z (by decide), fun z => absurd z (by decide), fun z => absurd z (by decide), fun z => absurd z (by decide)⟩⟩
  · subst q
    exact d_calmSet r2 r4 (w_X9_told_123 ⟨_, rfl, e_X10_told ⟨fun z => absurd z (by decide), fun z => absurd z (by decide), fun z => absurd z (by decide), fun z => absurd z (by decide), fun z => absurd z (by decide), fun z => absurd z (by decide), fun z => absurd z (by decide), fun _ => c_calmOnes r1 (mO_of r2) (mH_of r4) (w_X10_told_104 ⟨rfl, J⟩), fun z => absurd z (by decide), fun z => absurd z (by decide), fun z => absurd z (by decide), fun z => absurd z (by decide), fun z => absurd z (by decide), fun z => absurd z (by decide)⟩⟩)
  · subst q
    exact d_sickSet r2 r4 (w_X9_told_131 ⟨_, rfl, e_X10_told ⟨fun z => absurd z (by decide), fun z => absurd z (by decide), fun z => absurd z (by decide), fun z => absurd z (by decide), fun z => absurd z (by decide), fun z => absurd z (by decide), fun z => absurd z (by decide), fun z => absurd z (by decide), fun _ => c_coldOnes r1 (w_X10_told_109 ⟨rfl, J⟩), fun z => absurd z (by decide), fun z => absurd z (by decide), fun z => absurd z (by decide), fun z => absurd z (by decide), fun z => absurd z (by decide)⟩⟩)
  · subst q
    refine d_setAt r2 (w_X9_told_141 ⟨_, rfl, e_X10_told ⟨fun z => absurd z (by decide), fun z => absurd z (by decide), fun z => absurd z (by decide), fun z => absurd z (by decide), fun z => absurd z (by decide), fun z => absurd z (by decide), fun z => absurd z (by decide), fun z => absurd z (by decide), fun z => absurd z (by decide), fun _ => ⟨congrArg (fun x => some (Value.int x)) ?_, J⟩, fun z => absurd z (by decide), fun z => absurd z (by decide), fun z => absurd z (by decide), fun z => absurd z (by decide)⟩⟩)
    rw [r4.2.2.2.2.1]
    exact stF_congr (fun i hi => by rw [wv_pl h (by omega)])
  · subst q
    exact d_readableSet r2 r4 (w_X9_told_149 ⟨_, rfl, e_X10_told ⟨fun z => absurd z (by decide), fun z => absurd z (by decide), fun z => absurd z (by decide), fun z => absurd z (by decide), fun z => absurd z (by decide), fun z => absurd z (by decide), fun z => absurd z (by decide), fun z => absurd z (by decide), fun z => absurd z (by decide), fun z => absurd z (by decide), fun _ => c_readOnes r1 (w_X10_told_122 ⟨rfl, J⟩), fun z => absurd z (by decide), fun z => absurd z (by decide), fun z => absurd z (by decide)⟩⟩)
  · subst q
    exact ⟨_, rfl, e_X10_told ⟨fun z => absurd z (by decide), fun z => absurd z (by decide), fun z => absurd z (by decide), fun z => absurd z (by decide), fun z => absurd z (by decide), fun z => absurd z (by decide), fun z => absurd z (by decide), fun z => absurd z (by decide), fun z => absurd z (by decide), fun z => absurd z (by decide), fun z => absurd z (by decide), fun _ => ⟨congrArg (fun x => some (Value.int x)) (r8.2.1.trans r8.1.symm), J⟩, fun z => absurd z (by decide), fun z => absurd z (by decide)⟩⟩
  · subst q
    exact ⟨_, rfl, e_X10_told ⟨fun z => absurd z (by decide), fun z => absurd z (by decide), fun z => absurd z (by decide), fun z => absurd z (by decide), fun z => absurd z (by decide), fun z => absurd z (by decide), fun z => absurd z (by decide), fun z => absurd z (by decide), fun z => absurd z (by decide), fun z => absurd z (by decide), fun z => absurd z (by decide), fun z => absurd z (by decide), fun _ => ⟨congrArg (fun x => some (Value.int x)) (r9.2.1.trans r9.1.symm), J⟩, fun z => absurd z (by decide)⟩⟩
  · subst q
    exact ⟨_, rfl, e_X10_told ⟨fun z => absurd z (by decide), fun z => absurd z (by decide), fun z => absurd z (by decide), fun z => absurd z (by decide), fun z => absurd z (by decide), fun z => absurd z (by decide), fun z => absurd z (by decide), fun z => absurd z (by decide), fun z => absurd z (by decide), fun z => absurd z (by decide), fun z => absurd z (by decide), fun z => absurd z (by decide), fun z => absurd z (by decide), fun _ => ⟨congrArg (fun x => some (Value.int x)) (r5.2.2.2.2.1.trans r5.2.2.1.symm), J⟩⟩⟩
theorem sim_child {x1 x2 : Int32} (I : Inv h) : SM G mX9_child mX10_child [.int x1, .int x2] h := by
  have J := I
  obtain ⟨C, D, R⟩ := I
  obtain ⟨r1, r2, r3, r4, ⟨t0, b, r5⟩, ⟨s, r6⟩, r7, ⟨T, r8⟩, ⟨E, r9⟩, ⟨L, r10⟩⟩ := R
  have hC := r2.2.1
  have hD := r2.2.2.2.1
  refine e_X9_child (d_hasChild r2.1 hC (w_X9_child_8 ⟨fun q0 => ?_, fun q0 => ⟨_, rfl, e_X10_child (c_isChild r1 (w_X10_child_5 ⟨fun z => absurd q0 z, fun _ => ⟨rfl, J⟩⟩))⟩⟩))
  have q0' := q0
  rw [bI_n0] at q0
  obtain ⟨c, hc, rfl⟩ := ixB_of (by omega) q0
  have hv : vp_in (nI c) 6 := vp_in_nI (by omega) (by omega)
  simp (disch := omega) only [nI_clamp]
  obtain ⟨p1, p2, p3, p4, p5⟩ := r2.2.2.2.2.1 c hc
  have w1 := (r4.2.2.2.2.2.2 c hc).1
  have w2 := (r4.2.2.2.2.2.2 c hc).2.1
  rw [wv_co h (by omega)] at w1
  rw [wv_ho h] at w2
  refine ⟨fun q => ⟨_, rfl, ?_⟩, fun q => ?_, fun q => ?_, fun q => ?_, fun q => ?_, fun q => ?_, fun q => ?_⟩
  · exact e_X10_child (c_isChild r1 (w_X10_child_5 (by
      simp (disch := omega) only [nI_clamp, pk_mul, nI_add]
      exact ⟨fun _ => ⟨fun _ => ⟨by first | rfl | trivial, J⟩, fun z => absurd q (by rw [z]; decide), fun z => absurd q (by rw [z]; decide), fun z => absurd q (by rw [z]; decide), fun z => absurd q (by rw [z]; decide), fun z => absurd q (by rw [z]; decide), fun z => absurd q (by rw [z]; decide)⟩, fun z => absurd z q0'⟩)))
  · subst q
    refine ⟨hv, _, rfl, ?_⟩
    exact e_X10_child (c_isChild r1 (w_X10_child_5 (by
      simp (disch := omega) only [nI_clamp, pk_mul, nI_add]
      exact ⟨fun _ => ⟨fun z => absurd z (by decide), fun _ => ⟨vp_in_nI (by omega) (by omega), congrArg (fun x => some (Value.int x)) p1.symm, J⟩, fun z => absurd z (by decide), fun z => absurd z (by decide), fun z => absurd z (by decide), fun z => absurd z (by decide), fun z => absurd z (by decide)⟩, fun z => absurd z q0'⟩)))
  · subst q
    refine ⟨hv, _, rfl, ?_⟩
    exact e_X10_child (c_isChild r1 (w_X10_child_5 (by
      simp (disch := omega) only [nI_clamp, pk_mul, nI_add]
      exact ⟨fun _ => ⟨fun z => absurd z (by decide), fun z => absurd z (by decide), fun _ => ⟨vp_in_nI (by omega) (by omega), congrArg (fun x => some (Value.int x)) p2.symm, J⟩, fun z => absurd z (by decide), fun z => absurd z (by decide), fun z => absurd z (by decide), fun z => absurd z (by decide)⟩, fun z => absurd z q0'⟩)))
  · subst q
    refine d_dummyOf r2 r4 hc (w_X9_child_80 ⟨_, rfl, ?_⟩)
    exact e_X10_child (c_isChild r1 (w_X10_child_5 (by
      simp (disch := omega) only [nI_clamp, pk_mul, nI_add]
      exact ⟨fun _ => ⟨fun z => absurd z (by decide), fun z => absurd z (by decide), fun z => absurd z (by decide), fun _ => ⟨vp_in_nI (by omega) (by omega), by first | rfl | trivial, J⟩, fun z => absurd z (by decide), fun z => absurd z (by decide), fun z => absurd z (by decide)⟩, fun z => absurd z q0'⟩)))
  · subst q
    refine ⟨hv, _, rfl, ?_⟩
    exact e_X10_child (c_isChild r1 (w_X10_child_5 (by
      simp (disch := omega) only [nI_clamp, pk_mul, nI_add]
      exact ⟨fun _ => ⟨fun z => absurd z (by decide), fun z => absurd z (by decide), fun z => absurd z (by decide), fun z => absurd z (by decide), fun _ => ⟨vp_in_nI (by omega) (by omega), congrArg (fun x => some (Value.int x)) p3.symm, J⟩, fun z => absurd z (by decide), fun z => absurd z (by decide)⟩, fun z => absurd z q0'⟩)))
  · subst q
    refine ⟨hv, _, rfl, ?_⟩
    exact e_X10_child (c_isChild r1 (w_X10_child_5 (by
      simp (disch := omega) only [nI_clamp, pk_mul, nI_add]
      exact ⟨fun _ => ⟨fun z => absurd z (by decide), fun z => absurd z (by decide), fun z => absurd z (by decide), fun z => absurd z (by decide), fun z => absurd z (by decide), fun _ => ⟨vp_in_nI (by omega) (by omega), congrArg (fun x => some (Value.int x)) w1.symm, J⟩, fun z => absurd z (by decide)⟩, fun z => absurd z q0'⟩)))
  · subst q
    refine ⟨hv, _, rfl, ?_⟩
    exact e_X10_child (c_isChild r1 (w_X10_child_5 (by
      simp (disch := omega) only [nI_clamp, pk_mul, nI_add]
      exact ⟨fun _ => ⟨fun z => absurd z (by decide), fun z => absurd z (by decide), fun z => absurd z (by decide), fun z => absurd z (by decide), fun z => absurd z (by decide), fun z => absurd z (by decide), fun _ => ⟨vp_in_nI (by omega) (by omega), congrArg (fun x => some (Value.int x)) w2.symm, J⟩⟩, fun z => absurd z q0'⟩)))
theorem sim_dummy {x1 x2 : Int32} (I : Inv h) : SM G mX9_dummy mX10_dummy [.int x1, .int x2] h := by
  have J := I
  obtain ⟨C, D, R⟩ := I
  obtain ⟨r1, r2, r3, r4, ⟨t0, b, r5⟩, ⟨s, r6⟩, r7, ⟨T, r8⟩, ⟨E, r9⟩, ⟨L, r10⟩⟩ := R
  have hC := r2.2.1
  have hD := r2.2.2.2.1
  refine e_X9_dummy (d_hasDummy r2.2.2.1 hD (w_X9_dummy_8 ⟨fun q0 => ?_, fun q0 => ⟨_, rfl, e_X10_dummy (c_isDummy r1 (w_X10_dummy_5 ⟨fun z => absurd q0 z, fun _ => ⟨rfl, J⟩⟩))⟩⟩))
  have q0' := q0
  rw [bI_n0] at q0
  obtain ⟨d, hd, rfl⟩ := ixB_of (by omega) q0
  have hv : vp_in (nI d) 6 := vp_in_nI (by omega) (by omega)
  simp (disch := omega) only [nI_clamp]
  obtain ⟨p1, p2, p3, p4⟩ := r2.2.2.2.2.2 d hd
  have w1 := (r4.2.2.2.2.2.1 d hd).1
  have w2 := (r4.2.2.2.2.2.1 d hd).2
  rw [wv_bo h (by omega)] at w1
  rw [wv_ge h (by omega)] at w2
  have kd : dh_C G mX10_has [.int (h 68 19), .int (nI d)] h (fun v h1 => dh_J G mX10_dummy 108 [some (.ref 61), some (.int (nI d)), none] (v.toList ++ []) h1 (fun v2 h2 => v2 = some (.int (kind h C d)) ∧ Inv h2)) := by
    refine c_has (w_X10_dummy_108 ⟨fun z => c_holderOf r1 (w_X10_dummy_120 ⟨fun z2 => ?_, fun z2 => ?_⟩), fun z => ?_⟩)
    · rw [bI_0] at z
      exact ⟨by unfold kind; rw [z, if_neg (by decide), if_pos z2], J⟩
    · rw [bI_0] at z
      exact ⟨by unfold kind; rw [z, if_neg (by decide), if_neg z2], J⟩
    · rw [bI_n0] at z
      exact ⟨by unfold kind; rw [z, if_pos rfl], J⟩
  refine ⟨fun q => ⟨_, rfl, ?_⟩, fun q => ?_, fun q => ?_, fun q => ?_, fun q => ?_, fun q => ?_, fun q => ?_, fun q => ?_, fun q => ?_⟩
  · exact e_X10_dummy (c_isDummy r1 (w_X10_dummy_5 (by
      simp (disch := omega) only [nI_clamp, pk_mul, nI_add]
      exact ⟨fun _ => ⟨fun _ => ⟨by first | rfl | trivial, J⟩, fun z => absurd q (by rw [z]; decide), fun z => absurd q (by rw [z]; decide), fun z => absurd q (by rw [z]; decide), fun z => absurd q (by rw [z]; decide), fun z => absurd q (by rw [z]; decide), fun z => absurd q (by rw [z]; decide), fun z => absurd q (by rw [z]; decide), fun z => absurd q (by rw [z]; decide)⟩, fun z => absurd z q0'⟩)))
  · subst q
    refine ⟨hv, _, rfl, ?_⟩
    exact e_X10_dummy (c_isDummy r1 (w_X10_dummy_5 (by
      simp (disch := omega) only [nI_clamp, pk_mul, nI_add]
      exact ⟨fun _ => ⟨fun z => absurd z (by decide), fun _ => ⟨vp_in_nI (by omega) (by omega), congrArg (fun x => some (Value.int x)) p1.symm, J⟩, fun z => absurd z (by decide), fun z => absurd z (by decide), fun z => absurd z (by decide), fun z => absurd z (by decide), fun z => absurd z (by decide), fun z => absurd z (by decide), fun z => absurd z (by decide)⟩, fun z => absurd z q0'⟩)))
  · subst q
    refine ⟨hv, _, rfl, ?_⟩
    exact e_X10_dummy (c_isDummy r1 (w_X10_dummy_5 (by
      simp (disch := omega) only [nI_clamp, pk_mul, nI_add]
      exact ⟨fun _ => ⟨fun z => absurd z (by decide), fun z => absurd z (by decide), fun _ => ⟨vp_in_nI (by omega) (by omega), congrArg (fun x => some (Value.int x)) p2.symm, J⟩, fun z => absurd z (by decide), fun z => absurd z (by decide), fun z => absurd z (by decide), fun z => absurd z (by decide), fun z => absurd z (by decide), fun z => absurd z (by decide)⟩, fun z => absurd z q0'⟩)))
  · subst q
    refine ⟨hv, _, rfl, ?_⟩
    exact e_X10_dummy (c_isDummy r1 (w_X10_dummy_5 (by
      simp (disch := omega) only [nI_clamp, pk_mul, nI_add]
      exact ⟨fun _ => ⟨fun z => absurd z (by decide), fun z => absurd z (by decide), fun z => absurd z (by decide), fun _ => ⟨vp_in_nI (by omega) (by omega), congrArg (fun x => some (Value.int x)) p3.symm, J⟩, fun z => absurd z (by decide), fun z => absurd z (by decide), fun z => absurd z (by decide), fun z => absurd z (by decide), fun z => absurd z (by decide)⟩, fun z => absurd z q0'⟩)))
  · subst q
    refine ⟨hv, _, rfl, ?_⟩
    exact e_X10_dummy (c_isDummy r1 (w_X10_dummy_5 (by
      simp (disch := omega) only [nI_clamp, pk_mul, nI_add]
      exact ⟨fun _ => ⟨fun z => absurd z (by decide), fun z => absurd z (by decide), fun z => absurd z (by decide), fun z => absurd z (by decide), fun _ => ⟨vp_in_nI (by omega) (by omega), congrArg (fun x => some (Value.int x)) p4.symm, J⟩, fun z => absurd z (by decide), fun z => absurd z (by decide), fun z => absurd z (by decide), fun z => absurd z (by decide)⟩, fun z => absurd z q0'⟩)))
  · subst q
    refine d_holderOf r2 r4 hd (w_X9_dummy_108 ⟨_, rfl, ?_⟩)
    exact e_X10_dummy (c_isDummy r1 (w_X10_dummy_5 (by
      simp (disch := omega) only [nI_clamp, pk_mul, nI_add]
      exact ⟨fun _ => ⟨fun z => absurd z (by decide), fun z => absurd z (by decide), fun z => absurd z (by decide), fun z => absurd z (by decide), fun z => absurd z (by decide), fun _ => c_holderOf r1 (w_X10_dummy_76 ⟨rfl, J⟩), fun z => absurd z (by decide), fun z => absurd z (by decide), fun z => absurd z (by decide)⟩, fun z => absurd z q0'⟩)))
  · subst q
    refine ⟨hv, _, rfl, ?_⟩
    exact e_X10_dummy (c_isDummy r1 (w_X10_dummy_5 (by
      simp (disch := omega) only [nI_clamp, pk_mul, nI_add]
      exact ⟨fun _ => ⟨fun z => absurd z (by decide), fun z => absurd z (by decide), fun z => absurd z (by decide), fun z => absurd z (by decide), fun z => absurd z (by decide), fun z => absurd z (by decide), fun _ => ⟨vp_in_nI (by omega) (by omega), congrArg (fun x => some (Value.int x)) w1.symm, J⟩, fun z => absurd z (by decide), fun z => absurd z (by decide)⟩, fun z => absurd z q0'⟩)))
  · subst q
    refine ⟨hv, _, rfl, ?_⟩
    exact e_X10_dummy (c_isDummy r1 (w_X10_dummy_5 (by
      simp (disch := omega) only [nI_clamp, pk_mul, nI_add]
      exact ⟨fun _ => ⟨fun z => absurd z (by decide), fun z => absurd z (by decide), fun z => absurd z (by decide), fun z => absurd z (by decide), fun z => absurd z (by decide), fun z => absurd z (by decide), fun z => absurd z (by decide), fun _ => ⟨vp_in_nI (by omega) (by omega), congrArg (fun x => some (Value.int x)) w2.symm, J⟩, fun z => absurd z (by decide)⟩, fun z => absurd z q0'⟩)))
  · subst q
    refine d_kindOfPlace r2 r4 hd (w_X9_dummy_137 ⟨_, rfl, ?_⟩)
    exact e_X10_dummy (c_isDummy r1 (w_X10_dummy_5 (by
      simp (disch := omega) only [nI_clamp, pk_mul, nI_add]
      exact ⟨fun _ => ⟨fun z => absurd z (by decide), fun z => absurd z (by decide), fun z => absurd z (by decide), fun z => absurd z (by decide), fun z => absurd z (by decide), fun z => absurd z (by decide), fun z => absurd z (by decide), fun z => absurd z (by decide), fun _ => kd⟩, fun z => absurd z q0'⟩)))
end S4
