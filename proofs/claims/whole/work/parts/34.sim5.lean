/-! pairs: seed, fault, feed, tear, off, wants, wanted, judge, trial, write, quiet -/
section S5
variable {G : dh_G} {h g : dh_H} {C D : Nat} {Q : Option Value → dh_H → Prop}
theorem sim_fault (I : Inv h) : SM G mX9_fault mX10_fault [] h := by
  have J := I
  obtain ⟨C, D, R⟩ := I
  obtain ⟨r1, r2, r3, r4, ⟨t0, b, r5⟩, ⟨s, r6⟩, r7, ⟨T, r8⟩, ⟨E, r9⟩, ⟨L, r10⟩⟩ := R
  exact e_X9_fault ⟨_, rfl, e_X10_fault ⟨congrArg (fun x => some (Value.int x)) r10.2.2.2.2.symm, J⟩⟩
theorem sim_seed {x : Int32} (I : Inv h) : SM G mX9_seed mX10_seed [.int x] h := by
  have J := I
  obtain ⟨C, D, R⟩ := I
  obtain ⟨r1, r2, r3, r4, ⟨t0, b, r5⟩, ⟨s, r6⟩, r7, ⟨T, r8⟩, ⟨E, r9⟩, ⟨L, r10⟩⟩ := R
  refine e_X9_seed ⟨fun q => SM_end (h := h) (fun a ha => dh_s_n (by omega)) ?_, fun q => ⟨_, rfl, e_X10_seed ⟨fun z => absurd z q, fun _ => ⟨rfl, J⟩⟩⟩⟩
  obtain ⟨j, hj, e⟩ := nI_of (show ¬ x < 0 by rw [Int32.not_lt]; exact q)
  refine e_X10_seed ⟨fun _ => ⟨?_, ?_⟩, fun z => absurd q z⟩
  · show some (Value.int (h 61 30)) = some (.int (h 54 0))
    rw [r6.1, r6.2.1]
  · rw [mix_s _ _ (by decide)]
    exact ⟨C, D, RR_mix ⟨r1, r2, r3, r4, ⟨t0, b, r5⟩, ⟨j, e, e, hj⟩, r7, ⟨T, r8⟩, ⟨E, r9⟩, ⟨L, r10⟩⟩⟩
theorem sim_tear (I : Inv h) : SM G mX9_tear mX10_tear [] h := by
  have J := I
  obtain ⟨C, D, R⟩ := I
  obtain ⟨r1, r2, r3, r4, ⟨t0, b, r5⟩, ⟨s, r6⟩, r7, ⟨T, r8⟩, ⟨E, r9⟩, ⟨L, r10⟩⟩ := R
  refine e_X9_tear (e_X7_clear (w_X9_tear_23 (SM_end (h := h) (fun a ha => by rw [dh_s_n (by omega), dh_s_n (by omega)]) ?_)))
  refine e_X10_tear ⟨?_, ?_⟩
  · show some (Value.int (h 61 31 + h 61 33)) = some (.int (h 37 1 + h 51 0))
    rw [r8.1, r8.2.1, r9.1, r9.2.1]
  · rw [mix_s _ _ (by decide), mix_s _ _ (by decide)]
    exact ⟨C, D, RR_mix ⟨r1, r2, r3, r4, ⟨t0, b, r5⟩, ⟨s, r6⟩, r7, ⟨0, rfl, rfl, by omega, fun k hk => by omega⟩, ⟨0, rfl, rfl, by omega, fun k hk => by omega⟩, ⟨L, r10⟩⟩⟩
theorem sim_off {x : Int32} (I : Inv h) : SM G mX9_off mX10_off [.int x] h := by
  have J := I
  obtain ⟨C, D, R⟩ := I
  obtain ⟨r1, r2, r3, r4, -⟩ := R
  have hC := r2.2.1
  refine e_X9_off (d_hasChild r2.1 hC (w_X9_off_8 ⟨fun q => ?_, fun q => ⟨_, rfl, e_X10_off (c_isChild r1 (w_X10_off_5 ⟨fun _ => ⟨rfl, J⟩, fun z => absurd q z⟩))⟩⟩))
  have q' := q
  rw [bI_n0] at q
  obtain ⟨c, hc, rfl⟩ := ixB_of (by omega) q
  simp (disch := omega) only [nI_clamp]
  obtain ⟨p1, p2, p3, p4, p5⟩ := r2.2.2.2.2.1 c hc
  rw [p1, p2]
  refine ⟨vp_in_nI (by omega) (by omega), vp_in_nI (by omega) (by omega), fun q2 => ⟨_, rfl, e_X10_off (c_isChild r1 (w_X10_off_5 ⟨fun z => absurd z q', fun _ => ?_⟩))⟩, fun q2 => ⟨_, rfl, e_X10_off (c_isChild r1 (w_X10_off_5 ⟨fun z => absurd z q', fun _ => ?_⟩))⟩⟩
  · simp (disch := omega) only [nI_clamp, pk_mul, nI_add]
    refine ⟨vp_in_nI (by omega) (by omega), vp_in_nI (by omega) (by omega), fun _ => ⟨?_, J⟩, fun z => absurd z q2⟩
    rw [show nI 1 = 1 from rfl, Int32.mul_one]
  · simp (disch := omega) only [nI_clamp, pk_mul, nI_add]
    refine ⟨vp_in_nI (by omega) (by omega), vp_in_nI (by omega) (by omega), fun z => absurd q2 z, fun _ => ⟨?_, J⟩⟩
    rw [Int32.mul_comm]
/-- how many of n -/
def cnF (f : Nat → Bool) : Nat → Int32
  | 0 => nI 0
  | i + 1 => cnF f i + (if f i then nI 1 else nI 0)
theorem add_n0 (x : Int32) : x + nI 0 = x := by rw [nI_0]; exact Int32.add_zero x
theorem sim_wants {x : Int32} (I : Inv h) : SM G mX9_wants mX10_wants [.int x] h := by
  have J := I
  obtain ⟨C, D, R⟩ := I
  obtain ⟨r1, r2, r3, r4, -⟩ := R
  have hC := r2.2.1
  have hD := r2.2.2.2.1
  refine e_X9_wants (d_hasChild r2.1 hC (w_X9_wants_8 ⟨fun q => ?_, fun q => ⟨_, rfl, e_X10_wants (c_isChild r1 (w_X10_wants_5 ⟨fun z => absurd q z, fun _ => ⟨rfl, J⟩⟩))⟩⟩))
  have q' := q
  rw [bI_n0] at q
  obtain ⟨c, hc, rfl⟩ := ixB_of (by omega) q
  refine dh_up (P := fun i => dh_J G mX9_wants 18 [some (.ref 0), some (.int (nI c)), some (.int (cnF (tk h c) i)), some (.int (nI i))] [] h _) D ?_ ?_ 0 (by omega)
  · refine w_X9_wants_18 ⟨fun _ => ⟨_, rfl, e_X10_wants (c_isChild r1 (w_X10_wants_5 ⟨fun _ => ?_, fun z => absurd z q'⟩))⟩, fun q => absurd (Int32.le_refl _) (by rw [r2.2.2.1] at q; exact q)⟩
    refine dh_up (P := fun i => dh_J G mX10_wants 15 [some (.ref 61), some (.int (nI c)), some (.int (cnF (tk h c) i)), some (.int (nI i))] [] h _) D ?_ ?_ 0 (by omega)
    · exact w_X10_wants_15 ⟨fun _ => ⟨rfl, J⟩, fun q => absurd (Int32.le_refl _) (by rw [r1.2.2.1] at q; exact q)⟩
    · intro i hi ih
      refine w_X10_wants_15 ⟨fun q => ?_, fun q => c_takes r1 (mO_of r2) hc hi (w_X10_wants_30 ⟨fun z => ?_, fun z => ?_⟩)⟩
      · rw [r1.2.2.1, nI_leI (by omega) (by omega)] at q
        omega
      · rw [bI_0] at z
        rw [nI_add]
        simpa [cnF, z] using ih
      · rw [bI_n0] at z
        rw [nI_add]
        simpa [cnF, z] using ih
  · intro i hi ih
    refine w_X9_wants_18 ⟨fun q => ?_, fun q => d_takes r2 hc ?_⟩
    · rw [r2.2.2.1, nI_leI (by omega) (by omega)] at q
      omega
    · rw [ixB_nI (by omega), nI_clamp (by omega)]
      simp only [hi, decide_true, Bool.true_and]
      refine w_X9_wants_38 ⟨fun z => ?_, fun z => ?_⟩
      · rw [bI_0] at z
        rw [nI_add]
        have e : cnF (tk h c) (i + 1) = cnF (tk h c) i := by simp [cnF, z, add_n0]
        rw [e] at ih
        exact ih
      · rw [bI_n0] at z
        rw [nI_add]
        have e : cnF (tk h c) (i + 1) = cnF (tk h c) i + nI 1 := by simp [cnF, z]
        rw [e] at ih
        exact ih
theorem sim_wanted {x : Int32} (I : Inv h) : SM G mX9_wanted mX10_wanted [.int x] h := by
  have J := I
  obtain ⟨C, D, R⟩ := I
  obtain ⟨r1, r2, r3, r4, -⟩ := R
  have hC := r2.2.1
  have hD := r2.2.2.2.1
  refine e_X9_wanted (d_hasDummy r2.2.2.1 hD (w_X9_wanted_8 ⟨fun q => ?_, fun q => ⟨_, rfl, e_X10_wanted (c_isDummy r1 (w_X10_wanted_5 ⟨fun z => absurd q z, fun _ => ⟨rfl, J⟩⟩))⟩⟩))
  have q' := q
  rw [bI_n0] at q
  obtain ⟨d, hd, rfl⟩ := ixB_of (by omega) q
  refine dh_up (P := fun i => dh_J G mX9_wanted 18 [some (.ref 0), some (.int (nI d)), some (.int (cnF (fun c => tk h c d) i)), some (.int (nI i))] [] h _) C ?_ ?_ 0 (by omega)
  · refine w_X9_wanted_18 ⟨fun _ => ⟨_, rfl, e_X10_wanted (c_isDummy r1 (w_X10_wanted_5 ⟨fun _ => ?_, fun z => absurd z q'⟩))⟩, fun q => absurd (Int32.le_refl _) (by rw [r2.1] at q; exact q)⟩
    refine dh_up (P := fun i => dh_J G mX10_wanted 15 [some (.ref 61), some (.int (nI d)), some (.int (cnF (fun c => tk h c d) i)), some (.int (nI i))] [] h _) C ?_ ?_ 0 (by omega)
    · exact w_X10_wanted_15 ⟨fun _ => ⟨rfl, J⟩, fun q => absurd (Int32.le_refl _) (by rw [r1.1] at q; exact q)⟩
    · intro i hi ih
      refine w_X10_wanted_15 ⟨fun q => ?_, fun q => c_takes r1 (mO_of r2) hi hd (w_X10_wanted_30 ⟨fun z => ?_, fun z => ?_⟩)⟩
      · rw [r1.1, nI_leI (by omega) (by omega)] at q
        omega
      · rw [bI_0] at z
        rw [nI_add]
        simpa [cnF, z] using ih
      · rw [bI_n0] at z
        rw [nI_add]
        simpa [cnF, z] using ih
  · intro i hi ih
    refine w_X9_wanted_18 ⟨fun q => ?_, fun q => d_takes r2 hi ?_⟩
    · rw [r2.1, nI_leI (by omega) (by omega)] at q
      omega
    · rw [ixB_nI (by omega), nI_clamp (by omega)]
      simp only [hd, decide_true, Bool.true_and]
      refine w_X9_wanted_38 ⟨fun z => ?_, fun z => ?_⟩
      · rw [bI_0] at z
        rw [nI_add]
        have e : cnF (fun c => tk h c d) (i + 1) = cnF (fun c => tk h c d) i := by simp [cnF, z, add_n0]
        rw [e] at ih
        exact ih
      · rw [bI_n0] at z
        rw [nI_add]
        have e : cnF (fun c => tk h c d) (i + 1) = cnF (fun c => tk h c d) i + nI 1 := by simp [cnF, z]
        rw [e] at ih
        exact ih
/-- the first entry that isn't so: class and model walk it alike -/
theorem sim_judge (I : Inv h) : SM G mX9_judge mX10_judge [] h := by
  have J := I
  obtain ⟨C, D, R⟩ := I
  obtain ⟨r1, r2, r3, r4, ⟨t0, b, r5⟩, ⟨s, r6⟩, r7, ⟨T, r8⟩, ⟨E, r9⟩, ⟨L, r10⟩⟩ := R
  obtain ⟨b1, b2, b3, b4⟩ := r9
  have hC := r2.2.1
  have hD := r2.2.2.2.1
  -- the model from place i on, the class's answer being r
  have key : ∀ r : Int32, dh_J G mX10_judge 2 [some (.ref 61), some (.int (nI 0))] [] h (fun v2 h2 => v2 = some (.int r) ∧ Inv h2) → dh_C G mX10_judge [.ref 61] h (fun v2 h2 => v2 = some (.int r) ∧ Inv h2) := fun r q => e_X10_judge q
  refine e_X9_judge (e_X0_firstWrong ?_)
  refine dh_up (P := fun i => (∀ r : Int32, dh_J G mX10_judge 2 [some (.ref 61), some (.int (nI i))] [] h (fun v2 h2 => v2 = some (.int r) ∧ Inv h2) → dh_C G mX10_judge [.ref 61] h (fun v2 h2 => v2 = some (.int r) ∧ Inv h2)) → dh_J G mX0_firstWrong 2 [some (.ref 51), some (.ref 19), some (.int (nI i))] [] h _) E ?_ ?_ 0 (by omega) key
  · intro kk
    refine w_X0_firstWrong_2 ⟨fun _ => w_X9_judge_11 ⟨_, rfl, kk _ (w_X10_judge_2 ⟨fun _ => ⟨rfl, J⟩, fun q => absurd (Int32.le_refl _) (by rw [b2] at q; exact q)⟩)⟩, fun q => absurd (Int32.le_refl _) (by rw [b1] at q; exact q)⟩
  · intro i hi ih kk
    obtain ⟨e1, e2, d, hd, e3⟩ := b4 i hi
    have mstep : ∀ r : Int32, (holder h C (nI d) = h 74 (2 * i + 1) → dh_J G mX10_judge 2 [some (.ref 61), some (.int (nI (i + 1)))] [] h (fun v2 h2 => v2 = some (.int r) ∧ Inv h2)) → (¬ holder h C (nI d) = h 74 (2 * i + 1) → some (Value.int (nI i)) = some (.int r) ∧ Inv h) → dh_J G mX10_judge 2 [some (.ref 61), some (.int (nI i))] [] h (fun v2 h2 => v2 = some (.int r) ∧ Inv h2) := by
      intro r a1 a2
      refine w_X10_judge_2 ?_
      simp (disch := omega) only [b2, nI_leI, pk_mul, nI_clamp, e3]
      refine ⟨fun q => by omega, fun q => ⟨vp_in_nI (by omega) (by omega), c_holderOf r1 (w_X10_judge_22 ?_)⟩⟩
      simp (disch := omega) only [pk_mul, nI_add, nI_clamp]
      exact ⟨vp_in_nI (by omega) (by omega), a1, a2⟩
    refine w_X0_firstWrong_2 ?_
    simp (disch := omega) only [b1, nI_leI, nI_clamp, e1, e3]
    refine ⟨fun q => by omega, fun q => ⟨vp_in_nI (by omega) (by omega), d_holderOf r2 r4 hd (w_X0_firstWrong_20 ?_)⟩⟩
    simp (disch := omega) only [nI_add, nI_clamp, e2]
    refine ⟨vp_in_nI (by omega) (by omega), fun q2 => ih (fun r a => kk r (mstep r (fun _ => a) (fun z => absurd q2 z))), fun q2 => w_X9_judge_11 ⟨_, rfl, kk _ (mstep _ (fun z => absurd z q2) (fun _ => ⟨rfl, J⟩))⟩⟩
theorem sim_feed {x : Int32} (I : Inv h) : SM G mX9_feed mX10_feed [.int x] h := by
  have J := I
  obtain ⟨C, D, R⟩ := I
  obtain ⟨r1, r2, r3, r4, ⟨t0, b, r5⟩, ⟨s, r6⟩, r7, ⟨T, r8⟩, ⟨E, r9⟩, ⟨L, r10⟩⟩ := R
  obtain ⟨t1, t2, t3, t4, t5⟩ := r10
  refine e_X9_feed ⟨fun q => ⟨_, rfl, e_X10_feed (c_in (w_X10_feed_8 ⟨fun z => ?_, fun _ => ⟨rfl, J⟩⟩))⟩, fun q => ⟨fun q2 => ?_, fun q2 => ⟨_, rfl, e_X10_feed (c_in (w_X10_feed_8 ⟨fun z => ?_, fun _ => ⟨rfl, J⟩⟩))⟩⟩⟩
  · rw [bI_n0] at z
    simp [inB, nI_0, q] at z
  · have hin : inB x (nI 0) (nI 255) = true := by
      have q3 : ¬ nI 255 < x := by rw [Int32.not_lt]; exact q2
      simp [inB, nI_0, q, q3]
    obtain ⟨c, hc0, hc, ex⟩ := (inB_nat x (by decide) (by decide)).mp hin
    refine e_X6_append ?_
    rw [t1]
    simp (disch := omega) only [nI_ltI, nI_clamp, nI_add]
    refine ⟨fun q3 => ⟨vp_in_nI (by omega) (by omega), w_X9_feed_22 ⟨fun z => absurd z (by decide), fun _ => ?_⟩⟩, fun q3 => w_X9_feed_22 ⟨fun _ => ⟨_, rfl, e_X10_feed (c_in (w_X10_feed_8 ⟨fun _ => ⟨fun z => ?_, fun _ => ⟨rfl, J⟩⟩, fun z => ?_⟩))⟩, fun z => absurd rfl z⟩⟩
    · rw [dh_s_eq]
      refine SM_end (h := h) (fun a ha => by rw [dh_s_n (by omega), dh_s_n (by omega)]) (e_X10_feed (c_in (w_X10_feed_8 ⟨fun _ => ?_, fun z => ?_⟩)))
      · rw [show mix (dh_s (dh_s h 2 L x) 1 1 (nI (L + 1))) h 61 0 = h 61 0 from rfl, t2]
        simp (disch := omega) only [nI_eq, nI_clamp, nI_add]
        refine ⟨fun _ => ⟨vp_in_nI (by omega) (by omega), trivial, ?_⟩, fun z => by omega⟩
        rw [mix_s _ _ (by decide), mix_s _ _ (by decide)]
        refine ⟨C, D, RR_mix ⟨r1, r2, r3, r4, ⟨t0, b, r5⟩, ⟨s, r6⟩, r7, ⟨T, r8⟩, ⟨E, r9⟩, ⟨L + 1, rfl, rfl, by omega, fun k hk => ?_, t5⟩⟩⟩
        show dh_s h 2 L x 2 k = dh_s h 62 L x 62 k ∧ ∃ c, c ≤ 255 ∧ dh_s h 62 L x 62 k = nI c
        by_cases e : k = L
        · subst e
          rw [dh_s_eq, dh_s_eq]
          exact ⟨rfl, c, hc, ex⟩
        · rw [dh_s_nk e, dh_s_nk e]
          exact t4 k (by omega)
      · rw [bI_0, hin] at z
        exact absurd z (by decide)
    · rw [t2, nI_eq (by omega) (by decide)] at z
      omega
    · rw [bI_0, hin] at z
      exact absurd z (by decide)
  · rw [bI_n0] at z
    have q3 : nI 255 < x := by rw [← Int32.not_le]; exact q2
    simp [inB, q3] at z
end S5
