/-! pairs: trial, write, quiet, keep, goBack -/
section S6
variable {G : dh_G} {h g : dh_H} {C D : Nat} {Q : Option Value → dh_H → Prop}
theorem nar_b {x : Int32} (hx : x = 0 ∨ x = 1) : vp_nar .boolean x = x := by rcases hx with rfl | rfl <;> decide
theorem sim_trial {x1 x2 x3 : Int32} (hx : x3 = 0 ∨ x3 = 1) (I : Inv h) : SM G mX9_trial mX10_trial [.int x1, .int x2, .int x3] h := by
  have J := I
  obtain ⟨C, D, R⟩ := I
  obtain ⟨r1, r2, r3, r4, ⟨t0, b, r5⟩, ⟨s, r6⟩, r7, ⟨T, r8⟩, ⟨E, r9⟩, ⟨L, r10⟩⟩ := R
  obtain ⟨u1, u2, u3, u4⟩ := r8
  have hC := r2.2.1
  have hD := r2.2.2.2.1
  refine e_X9_trial (d_hasChild r2.1 hC (w_X9_trial_8 ⟨fun q => ⟨_, rfl, e_X10_trial (c_isChild r1 (w_X10_trial_5 ⟨fun _ => ⟨rfl, J⟩, fun z => absurd q z⟩))⟩, fun q => d_hasDummy r2.2.2.1 hD (w_X9_trial_19 ⟨fun q2 => ?_, fun q2 => ⟨_, rfl, e_X10_trial (c_isChild r1 (w_X10_trial_5 ⟨fun z => absurd z q, fun _ => c_isDummy r1 (w_X10_trial_13 ⟨fun z => absurd q2 z, fun _ => ⟨rfl, J⟩⟩)⟩))⟩⟩)⟩))
  refine e_X7_append ?_
  rw [u1]
  simp (disch := omega) only [nI_ltI, nI_clamp, nI_add]
  refine ⟨fun q3 => ⟨vp_in_nI (by omega) (by omega), vp_in_nI (by omega) (by omega), vp_in_nI (by omega) (by omega), w_X9_trial_35 ⟨fun z => absurd z (by decide), fun _ => ?_⟩⟩, fun q3 => w_X9_trial_35 ⟨fun _ => ⟨_, rfl, e_X10_trial (c_isChild r1 (w_X10_trial_5 ⟨fun z => absurd z q, fun _ => c_isDummy r1 (w_X10_trial_13 ⟨fun _ => ⟨fun z => ?_, fun _ => ⟨rfl, J⟩⟩, fun z => absurd z q2⟩)⟩))⟩, fun z => absurd rfl z⟩⟩
  · rw [dh_s_eq]
    have q' := q
    have q2' := q2
    rw [bI_n0] at q' q2'
    obtain ⟨c, hc, rfl⟩ := ixB_of (by omega) q'
    obtain ⟨d, hd, rfl⟩ := ixB_of (by omega) q2'
    refine SM_end (h := h) (fun a ha => by rw [dh_s_n (by omega), dh_s_n (by omega), dh_s_n (by omega), dh_s_n (by omega)]) ?_
    generalize ehh : dh_s (dh_s (dh_s (dh_s h 38 T (nI c)) 39 T (nI d)) 40 T (vp_nar .boolean x3)) 37 1 (nI (T + 1)) = hh
    have fin : ∀ y : Int32, y = x3 → Inv (mix hh (dh_s (dh_s (dh_s (dh_s h 73 (3 * T) (nI c)) 73 (3 * T + 1) (nI d)) 73 (3 * T + 2) y) 61 31 (nI (T + 1)))) := by
      intro y hy
      subst ehh
      refine ⟨C, D, RR_mix ⟨r1, r2, r3, r4, ⟨t0, b, r5⟩, ⟨s, r6⟩, r7, ⟨T + 1, rfl, rfl, by omega, fun k hk => ?_⟩, ⟨E, r9⟩, ⟨L, r10⟩⟩⟩
      show dh_s h 38 T (nI c) 38 k = dh_s (dh_s (dh_s h 73 (3 * T) (nI c)) 73 (3 * T + 1) (nI d)) 73 (3 * T + 2) y 73 (3 * k) ∧ dh_s h 39 T (nI d) 39 k = dh_s (dh_s (dh_s h 73 (3 * T) (nI c)) 73 (3 * T + 1) (nI d)) 73 (3 * T + 2) y 73 (3 * k + 1) ∧ dh_s h 40 T (vp_nar .boolean x3) 40 k = dh_s (dh_s (dh_s h 73 (3 * T) (nI c)) 73 (3 * T + 1) (nI d)) 73 (3 * T + 2) y 73 (3 * k + 2) ∧ (∃ c', c' < C ∧ dh_s (dh_s (dh_s h 73 (3 * T) (nI c)) 73 (3 * T + 1) (nI d)) 73 (3 * T + 2) y 73 (3 * k) = nI c') ∧ (∃ d', d' < D ∧ dh_s (dh_s (dh_s h 73 (3 * T) (nI c)) 73 (3 * T + 1) (nI d)) 73 (3 * T + 2) y 73 (3 * k + 1) = nI d') ∧ (dh_s (dh_s (dh_s h 73 (3 * T) (nI c)) 73 (3 * T + 1) (nI d)) 73 (3 * T + 2) y 73 (3 * k + 2) = 0 ∨ dh_s (dh_s (dh_s h 73 (3 * T) (nI c)) 73 (3 * T + 1) (nI d)) 73 (3 * T + 2) y 73 (3 * k + 2) = 1)
      by_cases e : k = T
      · subst e
        rw [dh_s_eq, dh_s_eq, dh_s_eq, dh_s_eq, dh_s_nk (show 3 * k ≠ 3 * k + 2 by omega), dh_s_nk (show 3 * k ≠ 3 * k + 1 by omega), dh_s_eq, dh_s_nk (show 3 * k + 1 ≠ 3 * k + 2 by omega), dh_s_eq, nar_b hx, hy]
        exact ⟨rfl, rfl, rfl, ⟨c, hc, rfl⟩, ⟨d, hd, rfl⟩, hx⟩
      · rw [dh_s_nk e, dh_s_nk e, dh_s_nk e, dh_s_nk (show 3 * k ≠ 3 * T + 2 by omega), dh_s_nk (show 3 * k ≠ 3 * T + 1 by omega), dh_s_nk (show 3 * k ≠ 3 * T by omega), dh_s_nk (show 3 * k + 1 ≠ 3 * T + 2 by omega), dh_s_nk (show 3 * k + 1 ≠ 3 * T + 1 by omega), dh_s_nk (show 3 * k + 1 ≠ 3 * T by omega), dh_s_nk (show 3 * k + 2 ≠ 3 * T + 2 by omega), dh_s_nk (show 3 * k + 2 ≠ 3 * T + 1 by omega), dh_s_nk (show 3 * k + 2 ≠ 3 * T by omega)]
        exact u4 k (by omega)
    refine e_X10_trial (c_isChild (C := C) (D := D) r1 (w_X10_trial_5 ⟨fun z => absurd z q, fun _ => c_isDummy (C := C) (D := D) r1 (w_X10_trial_13 ⟨fun _ => ?_, fun z => absurd z q2⟩)⟩))
    rw [show mix hh h 61 31 = h 61 31 from rfl, u2]
    simp (disch := omega) only [nI_eq, nI_clamp, nI_add, pk_mul]
    refine ⟨fun _ => ⟨vp_in_nI (by omega) (by omega), vp_in_nI (by omega) (by omega), fun z => ⟨vp_in_nI (by omega) (by omega), trivial, ?_⟩, fun z => ⟨vp_in_nI (by omega) (by omega), trivial, ?_⟩⟩, fun z => by omega⟩
    · rw [mix_s _ _ (by decide), mix_s _ _ (by decide), mix_s _ _ (by decide), mix_s _ _ (by decide)]
      exact fin _ (by rw [z]; decide)
    · rw [mix_s _ _ (by decide), mix_s _ _ (by decide), mix_s _ _ (by decide), mix_s _ _ (by decide)]
      exact fin _ (by rcases hx with e | e; exact absurd e z; rw [e]; decide)
  · rw [u2, nI_eq (by omega) (by decide)] at z
    omega
theorem sim_write {x1 x2 : Int32} (I : Inv h) : SM G mX9_write mX10_write [.int x1, .int x2] h := by
  have J := I
  obtain ⟨C, D, R⟩ := I
  obtain ⟨r1, r2, r3, r4, ⟨t0, b, r5⟩, ⟨s, r6⟩, r7, ⟨T, r8⟩, ⟨E, r9⟩, ⟨L, r10⟩⟩ := R
  obtain ⟨u1, u2, u3, u4⟩ := r9
  have hC := r2.2.1
  have hD := r2.2.2.2.1
  refine e_X9_write (d_hasDummy r2.2.2.1 hD (w_X9_write_8 ⟨fun q => ⟨_, rfl, e_X10_write (c_isDummy r1 (w_X10_write_5 ⟨fun _ => ⟨rfl, J⟩, fun z => absurd q z⟩))⟩, fun q => ?_⟩))
  have q' := q
  rw [bI_n0] at q'
  obtain ⟨d, hd, rfl⟩ := ixB_of (by omega) q'
  -- the model's own end
  have mend : ∀ hh : dh_H, hh = dh_s (dh_s (dh_s h 52 E (nI d)) 53 E x2) 51 0 (nI (E + 1)) → E < 15 → (vp_in (nI 2 * h 61 33) 30) ∧ (vp_in ((nI 2 * h 61 33) + nI 1) 30) ∧ (some (Value.int (h 61 33 + nI 1)) = some (.int (nI (E + 1))) ∧ Inv (dh_s (dh_s (dh_s (mix hh h) 74 (nI 2 * h 61 33).toNatClampNeg (nI d)) 74 ((nI 2 * h 61 33) + nI 1).toNatClampNeg x2) 61 33 (h 61 33 + nI 1))) := by
    intro hh ehh hE
    rw [u2]
    simp (disch := omega) only [nI_clamp, nI_add, pk_mul]
    refine ⟨vp_in_nI (by omega) (by omega), vp_in_nI (by omega) (by omega), trivial, ?_⟩
    rw [mix_s _ _ (by decide), mix_s _ _ (by decide), mix_s _ _ (by decide)]
    subst ehh
    refine ⟨C, D, RR_mix ⟨r1, r2, r3, r4, ⟨t0, b, r5⟩, ⟨s, r6⟩, r7, ⟨T, r8⟩, ⟨E + 1, rfl, rfl, by omega, fun k hk => ?_⟩, ⟨L, r10⟩⟩⟩
    show dh_s h 52 E (nI d) 52 k = dh_s (dh_s h 74 (2 * E) (nI d)) 74 (2 * E + 1) x2 74 (2 * k) ∧ dh_s h 53 E x2 53 k = dh_s (dh_s h 74 (2 * E) (nI d)) 74 (2 * E + 1) x2 74 (2 * k + 1) ∧ ∃ d', d' < D ∧ dh_s (dh_s h 74 (2 * E) (nI d)) 74 (2 * E + 1) x2 74 (2 * k) = nI d'
    by_cases e : k = E
    · subst e
      rw [dh_s_eq, dh_s_eq, dh_s_eq, dh_s_nk (show 2 * k ≠ 2 * k + 1 by omega), dh_s_eq]
      exact ⟨rfl, rfl, d, hd, rfl⟩
    · rw [dh_s_nk e, dh_s_nk e, dh_s_nk (show 2 * k ≠ 2 * E + 1 by omega), dh_s_nk (show 2 * k ≠ 2 * E by omega), dh_s_nk (show 2 * k + 1 ≠ 2 * E + 1 by omega), dh_s_nk (show 2 * k + 1 ≠ 2 * E by omega)]
      exact u4 k (by omega)
  have nfull : E < 15 → ¬ h 61 33 = nI 15 := fun hE z => by
    rw [u2, nI_eq (by omega) (by decide)] at z
    omega
  have full : ¬ E < 15 → h 61 33 = nI 15 := fun hE => by rw [u2, show E = 15 by omega]
  -- the class's append, then the model, by whether x2 is none
  have app : (x2 = -1 ∨ ixB x2 C = true) → dh_C G mX0_append [.ref 51, .int (nI d), .int x2] h (fun v h1 => dh_J G mX9_write 39 [some (.ref 0), none, none] (v.toList ++ []) h1 (fun v h1 => ∃ r : Int32, v = some (.int r) ∧ dh_C G mX10_write [.ref 61, .int (nI d), .int x2] h1 (fun v2 h2 => v2 = some (.int r) ∧ Inv h2))) := by
    intro hx
    refine e_X0_append ?_
    rw [u1]
    simp (disch := omega) only [nI_ltI, nI_clamp, nI_add]
    refine ⟨fun q3 => ⟨vp_in_nI (by omega) (by omega), vp_in_nI (by omega) (by omega), w_X9_write_39 ⟨fun z => absurd z (by decide), fun _ => ?_⟩⟩, fun q3 => w_X9_write_39 ⟨fun _ => ⟨_, rfl, ?_⟩, fun z => absurd rfl z⟩⟩
    · rw [dh_s_eq]
      refine SM_end (h := h) (fun a ha => by rw [dh_s_n (by omega), dh_s_n (by omega), dh_s_n (by omega)]) ?_
      generalize ehh : dh_s (dh_s (dh_s h 52 E (nI d)) 53 E x2) 51 0 (nI (E + 1)) = hh
      have me := mend hh ehh.symm q3
      have nf := nfull q3
      refine e_X10_write (c_isDummy (C := C) (D := D) r1 (w_X10_write_5 ⟨fun z => absurd z q, fun _ => ⟨fun e => ⟨fun _ => me, fun z => absurd z nf⟩, fun e => c_isChild (C := C) (D := D) r1 (w_X10_write_18 ⟨fun _ => ⟨fun _ => me, fun z => absurd z nf⟩, fun z => ?_⟩)⟩⟩))
      rcases hx with hx | hx
      · exact absurd hx e
      · rw [bI_0, hx] at z
        exact absurd z (by decide)
    · have fu := full q3
      refine e_X10_write (c_isDummy (C := C) (D := D) r1 (w_X10_write_5 ⟨fun z => absurd z q, fun _ => ⟨fun e => ⟨fun z => absurd fu z, fun _ => ⟨rfl, J⟩⟩, fun e => c_isChild (C := C) (D := D) r1 (w_X10_write_18 ⟨fun _ => ⟨fun z => absurd fu z, fun _ => ⟨rfl, J⟩⟩, fun z => ?_⟩)⟩⟩))
      rcases hx with hx | hx
      · exact absurd hx e
      · rw [bI_0, hx] at z
        exact absurd z (by decide)
  refine ⟨fun e => app (Or.inl e), fun e => d_hasChild r2.1 hC (w_X9_write_24 ⟨fun z => app (Or.inr (by rw [bI_n0] at z; exact z)), fun z => ⟨_, rfl, ?_⟩⟩)⟩
  exact e_X10_write (c_isDummy r1 (w_X10_write_5 ⟨fun y => absurd y q, fun _ => ⟨fun y => absurd y e, fun _ => c_isChild r1 (w_X10_write_18 ⟨fun y => absurd z y, fun _ => ⟨rfl, J⟩⟩)⟩⟩))
/-- odds of a quiet night, in billionths -/
def qtF (o : Nat) : Nat → Nat
  | 0 => 1000000000
  | i + 1 => qtF o i * (100 - o) / 100
theorem qtF_le (o i : Nat) : qtF o i ≤ 1000000000 := by
  induction i with
  | zero => exact Nat.le_refl _
  | succ i ih =>
    show qtF o i * (100 - o) / 100 ≤ 1000000000
    have h1 : qtF o i * (100 - o) ≤ 1000000000 * 100 := Nat.mul_le_mul ih (by omega)
    omega
theorem qt_mul {a b : Nat} (ha : a ≤ 1000000000) (hb : b ≤ 100) : a * b ≤ 100000000000 := Nat.mul_le_mul ha hb
theorem pct {a p : Nat} (ha : a ≤ 1000000000) (hp : p ≤ 100) : (((nI a).toInt64 * (nI p).toInt64) / (100 : Int64)).toInt32 = nI (a * p / 100) := by
  have := qt_mul ha hp
  rw [nI_l (by omega), nI_l (by omega), show (100 : Int64) = lN 100 from rfl, lN_mul, pk_lDiv (by omega) (by decide) (by decide), lN_i]
theorem d_percentOf {a p : Nat} (ha : a ≤ 1000000000) (hp : p ≤ 100) (k : Q (some (.int (nI (a * p / 100)))) h) : dh_C G mX9_percentOf [.int (nI a), .int (nI p)] h Q := by
  refine e_X9_percentOf ?_
  rw [pct ha hp]
  exact ⟨by decide, k⟩
theorem sim_quiet {x : Int32} (I : Inv h) : SM G mX9_quiet mX10_quiet [.int x] h := by
  have J := I
  obtain ⟨C, D, R⟩ := I
  obtain ⟨r1, r2, r3, r4, -⟩ := R
  obtain ⟨-, -, -, o1, o, ho, o2⟩ := r3
  have nin : ¬ inB x (nI 0) (nI 60) = true → dh_C G mX10_quiet [.ref 61, .int x] h (fun v2 h2 => v2 = some (.int (-1000000002)) ∧ Inv h2) := fun z => e_X10_quiet (c_in (w_X10_quiet_7 ⟨fun y => absurd (by rw [bI_n0] at y; exact y) z, fun _ => ⟨rfl, J⟩⟩))
  refine e_X9_quiet ⟨fun q => ⟨_, rfl, nin (fun z => ?_)⟩, fun q => ⟨fun q2 => ?_, fun q2 => ⟨_, rfl, nin (fun z => ?_)⟩⟩⟩
  · simp [inB, nI_0, q] at z
  · have hin : inB x (nI 0) (nI 60) = true := by
      have q3 : ¬ nI 60 < x := by rw [Int32.not_lt]; exact q2
      simp [inB, nI_0, q, q3]
    obtain ⟨t, -, ht, rfl⟩ := (inB_nat x (by decide) (by decide)).mp hin
    refine dh_up (P := fun i => dh_J G mX9_quiet 18 [some (.ref 0), some (.int (nI t)), some (.int (nI (qtF o i))), some (.int (nI i))] [] h _) t ?_ ?_ 0 (by omega)
    · refine w_X9_quiet_18 ⟨fun _ => ⟨_, rfl, e_X10_quiet (c_in (w_X10_quiet_7 ⟨fun _ => ?_, fun z => ?_⟩))⟩, fun z => absurd (Int32.le_refl _) z⟩
      · refine dh_up (P := fun i => dh_J G mX10_quiet 20 [some (.ref 61), some (.int (nI t)), some (.long (lN (qtF o i))), none, some (.int (nI i))] [] h _) t ?_ ?_ 0 (by omega)
        · refine w_X10_quiet_20 ⟨fun _ => ⟨?_, J⟩, fun z => absurd (Int32.le_refl _) z⟩
          rw [lN_i]
        · intro i hi ih
          refine w_X10_quiet_20 ?_
          have hq := qtF_le o i
          have hm := qt_mul hq (show 100 - o ≤ 100 by omega)
          rw [o2, pk_sub ho, nI_l (by omega), lN_mul, show (100 : Int64) = lN 100 from rfl, pk_lDiv (by omega) (by decide) (by decide), nI_add]
          simp (disch := omega) only [nI_leI]
          exact ⟨fun z => by omega, fun _ => ⟨by decide, ih⟩⟩
      · rw [bI_0, hin] at z
        exact absurd z (by decide)
    · intro i hi ih
      refine w_X9_quiet_18 ?_
      rw [o1, o2, pk_sub ho]
      simp (disch := omega) only [nI_leI]
      refine ⟨fun z => by omega, fun _ => d_percentOf (qtF_le o i) (by omega) (w_X9_quiet_37 ?_)⟩
      rw [nI_add]
      exact ih
  · have q3 : nI 60 < x := by rw [← Int32.not_le]; exact q2
    simp [inB, q3] at z
end S6
