/-! pairs: keep, goBack, trades, lost -/
section S7
variable {G : dh_G} {h g : dh_H} {C D : Nat} {Q : Option Value → dh_H → Prop}
theorem nar1 : vp_nar .boolean (nI 1) = nI 1 := by decide
theorem img_ix {x : Int32} (q : ¬ x < 0) (q2 : ¬ nI 2 ≤ x) : x = nI 0 ∨ x = nI 1 := by
  obtain ⟨j, hj, rfl⟩ := nI_of q
  rw [nI_leI (by decide) hj] at q2
  rcases (show j = 0 ∨ j = 1 by omega) with e | e
  · exact Or.inl (by rw [e])
  · exact Or.inr (by rw [e])
theorem imgN {x : Int32} (hx : x < 0 ∨ nI 2 ≤ x) : inB x (nI 0) (nI 1) = false := by
  cases e : inB x (nI 0) (nI 1) with
  | false => rfl
  | true =>
    obtain ⟨c, -, hc, rfl⟩ := (inB_nat x (by decide) (by decide)).mp e
    rcases hx with hx | hx
    · exact absurd hx (nI_pos (by omega))
    · rw [nI_leI (by decide) (by omega)] at hx
      omega
theorem inB_01 : inB (nI 0) (nI 0) (nI 1) = true ∧ inB (nI 1) (nI 0) (nI 1) = true := by decide
theorem keep_null {x : Int32} (J : Inv h) (hx : x < 0 ∨ nI 2 ≤ x) : SM G mX9_keep mX10_keep [.int x] h := by
  have e := imgN hx
  have fin : ∃ r' : Int32, some (Value.int (-1000000001)) = some (.int r') ∧ dh_C G mX10_keep [.ref 61, .int x] h (fun v2 h2 => v2 = some (.int r') ∧ Inv h2) := ⟨_, rfl, e_X10_keep (c_in (w_X10_keep_6 ⟨fun z => absurd (by rw [e]; rfl) z, fun _ => ⟨rfl, J⟩⟩))⟩
  refine e_X9_keep_N (e_X9_imageAt ⟨fun _ => w_X9_keep_N_5 fin, fun q => ⟨fun _ => w_X9_keep_N_5 fin, fun q2 => ?_⟩⟩)
  rcases hx with hx | hx
  · exact absurd hx q
  · exact absurd hx q2
theorem goBack_null {x : Int32} (J : Inv h) (hx : x < 0 ∨ nI 2 ≤ x) : SM G mX9_goBack mX10_goBack [.int x] h := by
  have e := imgN hx
  have fin : ∃ r' : Int32, some (Value.int (-1000000001)) = some (.int r') ∧ dh_C G mX10_goBack [.ref 61, .int x] h (fun v2 h2 => v2 = some (.int r') ∧ Inv h2) := ⟨_, rfl, e_X10_goBack (c_in (w_X10_goBack_6 ⟨fun z => absurd (by rw [e]; rfl) z, fun _ => ⟨rfl, J⟩⟩))⟩
  refine e_X9_goBack_N (e_X9_imageAt ⟨fun _ => w_X9_goBack_N_5 fin, fun q => ⟨fun _ => w_X9_goBack_N_5 fin, fun q2 => ?_⟩⟩)
  rcases hx with hx | hx
  · exact absurd hx q
  · exact absurd hx q2
theorem keep_56 (I : Inv h) : SM G mX9_keep mX10_keep [.int (nI 0)] h := by
  obtain ⟨C, D, R⟩ := I
  obtain ⟨r1, r2, r3, r4, ⟨t0, b, r5⟩, ⟨s, r6⟩, r7, ⟨T, r8⟩, ⟨E, r9⟩, ⟨L, r10⟩⟩ := R
  have hC := r2.2.1
  have hD := r2.2.2.2.1
  refine e_X9_keep_56 (e_X9_imageAt ⟨fun q => absurd q (by decide), fun _ => ⟨fun q => absurd q (by decide), fun _ => ⟨vp_in_nI (by decide) (by decide), 56, 57, rfl, rfl, w_X9_keep_56_5 ?_⟩⟩⟩)
  refine e_X2_takeFrom_56 (d_saveTo_57 (by decide) (w_X2_takeFrom_56_22 (w_X9_keep_56_25 (d_forget (w_X9_keep_56_32 (SM_end (h := h) (fun a ha => by rw [dh_s_n (by omega), dh_s_n (by omega), hr_n (by omega), dh_s_n (by omega), dh_s_n (by omega)]) ?_))))))
  generalize ehh : dh_s (dh_s (hr (dh_s (dh_s h 56 0 (nI 1)) 56 1 (h 54 0)) 57 (svR (dh_s (dh_s h 56 0 (nI 1)) 56 1 (h 54 0)) (dh_s (dh_s h 56 0 (nI 1)) 56 1 (h 54 0) 57) 0)) 25 1 (nI 0)) 25 2 (nI 0) = hh
  refine e_X10_keep (c_in (w_X10_keep_6 ⟨fun _ => ?_, fun z => absurd z (by decide)⟩))
  rw [pk_mul]
  refine c_bring_68_70 (by decide) (by decide) (w_X10_keep_30 ?_)
  simp (disch := decide) only [nI_clamp, nar1]
  refine ⟨vp_in_nI (by decide) (by decide), vp_in_nI (by decide) (by decide), trivial, ?_⟩
  rw [mix_c _ _ (by decide) (by decide), mix_s _ _ (by decide), mix_s _ _ (by decide), mix_s _ _ (by decide)]
  subst ehh
  refine ⟨C, D, RR_mix ⟨r1, r2, r3, r4, ⟨0, 0, rfl, by omega, rfl, by omega, rfl, fun j hj => by omega⟩, ⟨s, r6⟩, ⟨?_, ?_⟩, ⟨T, r8⟩, ⟨E, r9⟩, ⟨L, r10⟩⟩⟩
  · refine ⟨rfl, Or.inr rfl, fun _ => ⟨⟨s, r6.1, r6.2.1, r6.2.2⟩, WV_ext hC hD r4 (fun k hk => ?_) (fun k hk => ?_)⟩⟩
    · show svR (dh_s (dh_s h 56 0 (nI 1)) 56 1 (h 54 0)) (dh_s (dh_s h 56 0 (nI 1)) 56 1 (h 54 0) 57) 0 k = wv h k
      have e := svR_in (dh_s (dh_s h 56 0 (nI 1)) 56 1 (h 54 0)) (dh_s (dh_s h 56 0 (nI 1)) 56 1 (h 54 0) 57) 0 hk
      rw [Nat.zero_add] at e
      exact e
    · show dh_c h 68 70 0 (32 * 0) 32 70 (32 * 0 + k) = h 68 k
      rw [dh_c_i, pk_cpy_in (by omega) (by omega), show 0 + (32 * 0 + k - 32 * 0) = k by omega]
  · refine ⟨r7.2.1, r7.2.2.1, fun q => ⟨(r7.2.2.2 q).1, WV_ext hC hD (r7.2.2.2 q).2 (fun k hk => rfl) (fun k hk => ?_)⟩⟩
    show dh_c h 68 70 0 (32 * 0) 32 70 (32 * 1 + k) = h 70 (32 * 1 + k)
    rw [dh_c_i, pk_cpy_out (by omega)]
theorem goBack_56 (I : Inv h) : SM G mX9_goBack mX10_goBack [.int (nI 0)] h := by
  have J := I
  obtain ⟨C, D, R⟩ := I
  have R' := R
  obtain ⟨r1, r2, r3, r4, ⟨t0, b, r5⟩, ⟨s, r6⟩, r7, ⟨T, r8⟩, ⟨E, r9⟩, ⟨L, r10⟩⟩ := R'
  have hC := r2.2.1
  have hD := r2.2.2.2.1
  obtain ⟨m1, m2, m3⟩ := r7.1
  refine e_X9_goBack_56 (e_X9_imageAt ⟨fun q => absurd q (by decide), fun _ => ⟨fun q => absurd q (by decide), fun _ => ⟨vp_in_nI (by decide) (by decide), 56, 57, rfl, rfl, w_X9_goBack_56_5 ⟨fun q => ?_, fun q => ⟨_, rfl, e_X10_goBack (c_in (w_X10_goBack_6 ⟨fun _ => ?_, fun z => absurd z (by decide)⟩))⟩⟩⟩⟩⟩)
  · have k1 : h 72 0 = 1 := by
      rcases m2 with z | z
      · exact absurd (m1.trans z) q
      · exact z
    obtain ⟨⟨s', v1, v2, v3⟩, W⟩ := m3 k1
    refine e_X2_putInto_56 (d_loadFrom_57 (by decide) (fun h1 f hl => w_X2_putInto_56_9 (w_X9_goBack_56_35 (d_forget (w_X9_goBack_56_42 (SM_end (h := h) (fun a ha => by rw [dh_s_n (by omega), dh_s_n (by omega), dh_s_n (by omega), f a (by omega)]) ?_))))))
    generalize ehh : dh_s (dh_s (dh_s h1 54 0 (h1 56 1)) 25 1 (nI 0)) 25 2 (nI 0) = hh
    refine e_X10_goBack (c_in (w_X10_goBack_6 ⟨fun _ => ?_, fun z => absurd z (by decide)⟩))
    simp (disch := decide) only [nI_clamp]
    refine ⟨vp_in_nI (by decide) (by decide), fun _ => ?_, fun z => ?_⟩
    · rw [pk_mul]
      refine c_bring_70_68 (by decide) (by decide) (w_X10_goBack_42 ?_)
      simp (disch := decide) only [nI_clamp]
      refine ⟨vp_in_nI (by decide) (by decide), trivial, ?_⟩
      rw [mix_c _ _ (by decide) (by decide), mix_s _ _ (by decide), mix_s _ _ (by decide)]
      subst ehh
      refine ⟨C, D, RR_mix (RR_act R (fun a ha h2 h3 => by rw [dh_s_n (by omega), dh_s_n (by omega), dh_s_n h3, f a (by omega)]) (fun a h2 h3 h4 => by rw [dh_s_n (by omega), dh_s_n (by omega), dh_c_n h3]) (fun k h2 h3 => ?_) ?_ ⟨0, 0, rfl, by omega, rfl, by omega, rfl, fun j hj => by omega⟩ ⟨s', ?_, ?_, v3⟩)⟩
      · rw [dh_s_nk h2, dh_s_nk h3, dh_c_n (by decide)]
      · show WV (wv h1) (dh_c h 70 68 (32 * 0) 0 32 68) C D
        refine WV_ext hC hD W (fun k hk => ?_) (fun k hk => ?_)
        · rw [hl k hk, Nat.zero_add]
        · rw [dh_c_i, pk_cpy_in (by omega) (by omega), Nat.sub_zero]
      · show h1 56 1 = nI s'
        rw [f 56 (by omega)]
        exact v1
      · exact v2
    · exact absurd (show h 72 0 = 0 from z) (by rw [k1]; decide)
  · simp (disch := decide) only [nI_clamp]
    exact ⟨vp_in_nI (by decide) (by decide), fun z => absurd (m1.symm.trans q) z, fun _ => ⟨trivial, J⟩⟩
theorem keep_58 (I : Inv h) : SM G mX9_keep mX10_keep [.int (nI 1)] h := by
  obtain ⟨C, D, R⟩ := I
  obtain ⟨r1, r2, r3, r4, ⟨t0, b, r5⟩, ⟨s, r6⟩, r7, ⟨T, r8⟩, ⟨E, r9⟩, ⟨L, r10⟩⟩ := R
  have hC := r2.2.1
  have hD := r2.2.2.2.1
  refine e_X9_keep_58 (e_X9_imageAt ⟨fun q => absurd q (by decide), fun _ => ⟨fun q => absurd q (by decide), fun _ => ⟨vp_in_nI (by decide) (by decide), 58, 59, rfl, rfl, w_X9_keep_58_5 ?_⟩⟩⟩)
  refine e_X2_takeFrom_58 (d_saveTo_59 (by decide) (w_X2_takeFrom_58_22 (w_X9_keep_58_25 (d_forget (w_X9_keep_58_32 (SM_end (h := h) (fun a ha => by rw [dh_s_n (by omega), dh_s_n (by omega), hr_n (by omega), dh_s_n (by omega), dh_s_n (by omega)]) ?_))))))
  generalize ehh : dh_s (dh_s (hr (dh_s (dh_s h 58 0 (nI 1)) 58 1 (h 54 0)) 59 (svR (dh_s (dh_s h 58 0 (nI 1)) 58 1 (h 54 0)) (dh_s (dh_s h 58 0 (nI 1)) 58 1 (h 54 0) 59) 0)) 25 1 (nI 0)) 25 2 (nI 0) = hh
  refine e_X10_keep (c_in (w_X10_keep_6 ⟨fun _ => ?_, fun z => absurd z (by decide)⟩))
  rw [pk_mul]
  refine c_bring_68_70 (by decide) (by decide) (w_X10_keep_30 ?_)
  simp (disch := decide) only [nI_clamp, nar1]
  refine ⟨vp_in_nI (by decide) (by decide), vp_in_nI (by decide) (by decide), trivial, ?_⟩
  rw [mix_c _ _ (by decide) (by decide), mix_s _ _ (by decide), mix_s _ _ (by decide), mix_s _ _ (by decide)]
  subst ehh
  refine ⟨C, D, RR_mix ⟨r1, r2, r3, r4, ⟨0, 0, rfl, by omega, rfl, by omega, rfl, fun j hj => by omega⟩, ⟨s, r6⟩, ⟨?_, ?_⟩, ⟨T, r8⟩, ⟨E, r9⟩, ⟨L, r10⟩⟩⟩
  · refine ⟨r7.1.1, r7.1.2.1, fun q => ⟨(r7.1.2.2 q).1, WV_ext hC hD (r7.1.2.2 q).2 (fun k hk => rfl) (fun k hk => ?_)⟩⟩
    show dh_c h 68 70 0 (32 * 1) 32 70 (32 * 0 + k) = h 70 (32 * 0 + k)
    rw [dh_c_i, pk_cpy_out (by omega)]
  · refine ⟨rfl, Or.inr rfl, fun _ => ⟨⟨s, r6.1, r6.2.1, r6.2.2⟩, WV_ext hC hD r4 (fun k hk => ?_) (fun k hk => ?_)⟩⟩
    · show svR (dh_s (dh_s h 58 0 (nI 1)) 58 1 (h 54 0)) (dh_s (dh_s h 58 0 (nI 1)) 58 1 (h 54 0) 59) 0 k = wv h k
      have e := svR_in (dh_s (dh_s h 58 0 (nI 1)) 58 1 (h 54 0)) (dh_s (dh_s h 58 0 (nI 1)) 58 1 (h 54 0) 59) 0 hk
      rw [Nat.zero_add] at e
      exact e
    · show dh_c h 68 70 0 (32 * 1) 32 70 (32 * 1 + k) = h 68 k
      rw [dh_c_i, pk_cpy_in (by omega) (by omega), show 0 + (32 * 1 + k - 32 * 1) = k by omega]
theorem goBack_58 (I : Inv h) : SM G mX9_goBack mX10_goBack [.int (nI 1)] h := by
  have J := I
  obtain ⟨C, D, R⟩ := I
  have R' := R
  obtain ⟨r1, r2, r3, r4, ⟨t0, b, r5⟩, ⟨s, r6⟩, r7, ⟨T, r8⟩, ⟨E, r9⟩, ⟨L, r10⟩⟩ := R'
  have hC := r2.2.1
  have hD := r2.2.2.2.1
  obtain ⟨m1, m2, m3⟩ := r7.2
  refine e_X9_goBack_58 (e_X9_imageAt ⟨fun q => absurd q (by decide), fun _ => ⟨fun q => absurd q (by decide), fun _ => ⟨vp_in_nI (by decide) (by decide), 58, 59, rfl, rfl, w_X9_goBack_58_5 ⟨fun q => ?_, fun q => ⟨_, rfl, e_X10_goBack (c_in (w_X10_goBack_6 ⟨fun _ => ?_, fun z => absurd z (by decide)⟩))⟩⟩⟩⟩⟩)
  · have k1 : h 72 1 = 1 := by
      rcases m2 with z | z
      · exact absurd (m1.trans z) q
      · exact z
    obtain ⟨⟨s', v1, v2, v3⟩, W⟩ := m3 k1
    refine e_X2_putInto_58 (d_loadFrom_59 (by decide) (fun h1 f hl => w_X2_putInto_58_9 (w_X9_goBack_58_35 (d_forget (w_X9_goBack_58_42 (SM_end (h := h) (fun a ha => by rw [dh_s_n (by omega), dh_s_n (by omega), dh_s_n (by omega), f a (by omega)]) ?_))))))
    generalize ehh : dh_s (dh_s (dh_s h1 54 0 (h1 58 1)) 25 1 (nI 0)) 25 2 (nI 0) = hh
    refine e_X10_goBack (c_in (w_X10_goBack_6 ⟨fun _ => ?_, fun z => absurd z (by decide)⟩))
    simp (disch := decide) only [nI_clamp]
    refine ⟨vp_in_nI (by decide) (by decide), fun _ => ?_, fun z => ?_⟩
    · rw [pk_mul]
      refine c_bring_70_68 (by decide) (by decide) (w_X10_goBack_42 ?_)
      simp (disch := decide) only [nI_clamp]
      refine ⟨vp_in_nI (by decide) (by decide), trivial, ?_⟩
      rw [mix_c _ _ (by decide) (by decide), mix_s _ _ (by decide), mix_s _ _ (by decide)]
      subst ehh
      refine ⟨C, D, RR_mix (RR_act R (fun a ha h2 h3 => by rw [dh_s_n (by omega), dh_s_n (by omega), dh_s_n h3, f a (by omega)]) (fun a h2 h3 h4 => by rw [dh_s_n (by omega), dh_s_n (by omega), dh_c_n h3]) (fun k h2 h3 => ?_) ?_ ⟨0, 0, rfl, by omega, rfl, by omega, rfl, fun j hj => by omega⟩ ⟨s', ?_, ?_, v3⟩)⟩
      · rw [dh_s_nk h2, dh_s_nk h3, dh_c_n (by decide)]
      · show WV (wv h1) (dh_c h 70 68 (32 * 1) 0 32 68) C D
        refine WV_ext hC hD W (fun k hk => ?_) (fun k hk => ?_)
        · rw [hl k hk, Nat.zero_add]
        · rw [dh_c_i, pk_cpy_in (by omega) (by omega), Nat.sub_zero]
      · show h1 58 1 = nI s'
        rw [f 58 (by omega)]
        exact v1
      · exact v2
    · exact absurd (show h 72 1 = 0 from z) (by rw [k1]; decide)
  · simp (disch := decide) only [nI_clamp]
    exact ⟨vp_in_nI (by decide) (by decide), fun z => absurd (m1.symm.trans q) z, fun _ => ⟨trivial, J⟩⟩
theorem sim_keep {x : Int32} (I : Inv h) : SM G mX9_keep mX10_keep [.int x] h := by
  by_cases q : x < 0
  · exact keep_null I (Or.inl q)
  · by_cases q2 : nI 2 ≤ x
    · exact keep_null I (Or.inr q2)
    · rcases img_ix q q2 with rfl | rfl
      · exact keep_56 I
      · exact keep_58 I
theorem sim_goBack {x : Int32} (I : Inv h) : SM G mX9_goBack mX10_goBack [.int x] h := by
  by_cases q : x < 0
  · exact goBack_null I (Or.inl q)
  · by_cases q2 : nI 2 ≤ x
    · exact goBack_null I (Or.inr q2)
    · rcases img_ix q q2 with rfl | rfl
      · exact goBack_56 I
      · exact goBack_58 I
/-- whether a trade of a's and b's makes more of them calm -/
def trB (g : dh_H) (a b : Nat) : Bool :=
  if g 68 (1 + a) = -1 then false else if g 68 (1 + b) = -1 then false
  else !decide (bI (tk g a (g 68 (1 + b)).toNatClampNeg) + bI (tk g b (g 68 (1 + a)).toNatClampNeg) ≤ bI (calm g a) + bI (calm g b))
theorem calm_tk {c d : Nat} (hd : d < 2 ^ 31) (e : g 68 (1 + c) = nI d) : calm g c = tk g c d := by
  unfold calm
  rw [e, if_neg (nI_ne_m1 hd), nI_clamp hd]
theorem d_tradeCalms {a b : Nat} (hP : PR h g C D) (hW : WV (wv h) (g 68) C D) (ha : a < C) (hb : b < C) (k : Q (some (.int (bI (trB g a b)))) h) : dh_C G mX8_tradeCalms [.ref 19, .int (nI a), .int (nI b)] h Q := by
  have hD := hP.2.2.2.1
  refine e_X8_tradeCalms (d_dummyOf hP hW ha (w_X8_tradeCalms_5 (d_dummyOf hP hW hb (w_X8_tradeCalms_11 ⟨fun q => ?_, fun q => ⟨fun q2 => ?_, fun q2 => ?_⟩⟩))))
  · rw [show trB g a b = false by unfold trB; rw [if_pos q]] at k
    exact k
  · obtain ⟨d1, hd1, e1⟩ := oI_ix (by omega) (WV_H hW a ha) q
    obtain ⟨d2, hd2, e2⟩ := oI_ix (by omega) (WV_H hW b hb) q2
    have c1 := calm_tk (show d1 < 2 ^ 31 by omega) e1
    have c2 := calm_tk (show d2 < 2 ^ 31 by omega) e2
    unfold trB at k
    rw [if_neg q, if_neg q2] at k
    rw [e1, e2]
    rw [e1, e2, nI_clamp (by omega), nI_clamp (by omega), c1, c2] at k
    have ix : ∀ d, d < D → ixB (nI d) D = true := fun d hd => by rw [ixB_nI (by omega)]; simp [hd]
    refine d_calmOf hP ha ?_
    rw [ix d1 hd1, nI_clamp (by omega), Bool.true_and]
    refine w_X8_tradeCalms_32 (d_calmOf hP hb ?_)
    rw [ix d2 hd2, nI_clamp (by omega), Bool.true_and]
    refine w_X8_tradeCalms_39 (d_calmOf hP ha ?_)
    rw [ix d2 hd2, nI_clamp (by omega), Bool.true_and]
    refine w_X8_tradeCalms_47 (d_calmOf hP hb ?_)
    rw [ix d1 hd1, nI_clamp (by omega), Bool.true_and]
    refine w_X8_tradeCalms_53 ⟨fun q3 => ?_, fun q3 => ?_⟩
    · simp only [q3, decide_true, Bool.not_true] at k
      exact k
    · simp only [q3, decide_false, Bool.not_false] at k
      exact k
  · rw [show trB g a b = false by unfold trB; rw [if_neg q, if_pos q2]] at k
    exact k
theorem bI_sum (a b : Bool) : (if a = true then nI 1 else nI 0) + (if b = true then nI 1 else nI 0) = bI a + bI b := rfl
/-- the model's inner step at (a, b), n found so far -/
theorem m_trade {a b : Nat} {x n : Int32} (hN : mN h C D) (hO : mO h C D) (hH : mH h C D) (ha : a < C) (hb : b < C)
    (k1 : trB h a b = false → dh_J G mX10_trades 17 [some (.ref 61), some (.int x), some (.int n), some (.int (nI a)), some (.int (nI (b + 1))), none, none, none, none] [] h Q)
    (k2 : trB h a b = true → ¬ n = x → dh_J G mX10_trades 17 [some (.ref 61), some (.int x), some (.int (n + nI 1)), some (.int (nI a)), some (.int (nI (b + 1))), none, none, none, none] [] h Q)
    (k3 : trB h a b = true → n = x → Q (some (.int (nI 10 * nI a + nI b))) h) : dh_J G mX10_trades 17 [some (.ref 61), some (.int x), some (.int n), some (.int (nI a)), some (.int (nI b)), none, none, none, none] [] h Q := by
  have hC := hN.2.1
  have hD := hN.2.2.2
  refine w_X10_trades_17 ?_
  rw [hN.1]
  simp (disch := omega) only [nI_leI, nI_add, nI_clamp]
  refine ⟨fun q => by omega, fun _ => ⟨vp_in_nI (by omega) (by omega), vp_in_nI (by omega) (by omega), fun q => k1 (by unfold trB; rw [if_pos q]), fun q => ⟨fun q2 => k1 (by unfold trB; rw [if_neg q, if_pos q2]), fun q2 => ?_⟩⟩⟩
  obtain ⟨d1, hd1, e1⟩ := oI_ix (by omega) (hH a ha) q
  obtain ⟨d2, hd2, e2⟩ := oI_ix (by omega) (hH b hb) q2
  unfold trB at k1 k2 k3
  rw [if_neg q, if_neg q2] at k1 k2 k3
  rw [e1, e2]
  rw [e1, e2, nI_clamp (by omega), nI_clamp (by omega)] at k1 k2 k3
  refine c_isCalm hN hO hH ha ?_
  generalize calm h a = ca at k1 k2 k3 ⊢
  have fin : ∀ (cb t1 t2 : Bool) (x7 s0 : Int32), x7 = bI ca + bI cb → s0 = bI t1 → (k1 : (!decide (bI t1 + bI t2 ≤ bI ca + bI cb)) = false → dh_J G mX10_trades 17 [some (.ref 61), some (.int x), some (.int n), some (.int (nI a)), some (.int (nI (b + 1))), none, none, none, none] [] h Q) → (k2 : (!decide (bI t1 + bI t2 ≤ bI ca + bI cb)) = true → ¬ n = x → dh_J G mX10_trades 17 [some (.ref 61), some (.int x), some (.int (n + nI 1)), some (.int (nI a)), some (.int (nI (b + 1))), none, none, none, none] [] h Q) → (k3 : (!decide (bI t1 + bI t2 ≤ bI ca + bI cb)) = true → n = x → Q (some (.int (nI 10 * nI a + nI b))) h) → dh_J G mX10_trades 112 [some (.ref 61), some (.int x), some (.int n), some (.int (nI a)), some (.int (nI b)), none, none, some (.int x7), none] [.int (bI t2), .int s0] h Q := by
    intro cb t1 t2 x7 s0 e7 e0 k1 k2 k3
    subst e7 e0
    refine w_X10_trades_112 ?_
    rw [nI_add]
    cases t2 with
    | false =>
      refine ⟨fun _ => ⟨fun q => k1 (by simpa [bI] using q), fun q => ⟨fun q2 => k2 (by simpa [bI] using q) q2, fun q2 => k3 (by simpa [bI] using q) q2⟩⟩, fun q => absurd rfl q⟩
    | true =>
      refine ⟨fun q => absurd q (by decide), fun _ => ⟨fun q => k1 (by simpa [bI] using q), fun q => ⟨fun q2 => k2 (by simpa [bI] using q) q2, fun q2 => k3 (by simpa [bI] using q) q2⟩⟩⟩
  have st2 : ∀ (cb : Bool) (x7 : Int32), x7 = bI ca + bI cb → (k1 : (!decide (bI (tk h a d2) + bI (tk h b d1) ≤ bI ca + bI cb)) = false → dh_J G mX10_trades 17 [some (.ref 61), some (.int x), some (.int n), some (.int (nI a)), some (.int (nI (b + 1))), none, none, none, none] [] h Q) → (k2 : (!decide (bI (tk h a d2) + bI (tk h b d1) ≤ bI ca + bI cb)) = true → ¬ n = x → dh_J G mX10_trades 17 [some (.ref 61), some (.int x), some (.int (n + nI 1)), some (.int (nI a)), some (.int (nI (b + 1))), none, none, none, none] [] h Q) → (k3 : (!decide (bI (tk h a d2) + bI (tk h b d1) ≤ bI ca + bI cb)) = true → n = x → Q (some (.int (nI 10 * nI a + nI b))) h) → dh_C G mX10_takes [.ref 61, .int (nI a), .int (nI d2)] h (fun v h1 => dh_J G mX10_trades 96 [some (.ref 61), some (.int x), some (.int n), some (.int (nI a)), some (.int (nI b)), some (.int (nI d1)), none, some (.int x7), none] (v.toList ++ []) h1 Q) := by
    intro cb x7 e7 k1 k2 k3
    refine c_takes hN hO ha hd2 ?_
    refine w_X10_trades_96 ⟨fun q => c_takes hN hO hb hd1 ?_, fun q => c_takes hN hO hb hd1 ?_⟩
    · rw [bI_0] at q
      exact fin cb (tk h a d2) (tk h b d1) x7 (nI 0) e7 (by rw [q]; rfl) k1 k2 k3
    · rw [bI_n0] at q
      exact fin cb (tk h a d2) (tk h b d1) x7 (nI 1) e7 (by rw [q]; rfl) k1 k2 k3
  have st1 : ∀ s0 : Int32, s0 = bI ca → dh_C G mX10_isCalm [.ref 61, .int (nI b)] h (fun v h1 => dh_J G mX10_trades 78 [some (.ref 61), some (.int x), some (.int n), some (.int (nI a)), some (.int (nI b)), some (.int (nI d1)), some (.int (nI d2)), none, none] (v.toList ++ [.int s0]) h1 Q) := by
    intro s0 e0
    subst e0
    refine c_isCalm hN hO hH hb (w_X10_trades_78 ⟨fun q => ?_, fun q => ?_⟩)
    · rw [bI_0] at q
      exact st2 (calm h b) _ (by rw [q]; rfl) k1 k2 k3
    · rw [bI_n0] at q
      exact st2 (calm h b) _ (by rw [q]; rfl) k1 k2 k3
  refine w_X10_trades_64 ⟨fun q => st1 _ ?_, fun q => st1 _ ?_⟩
  · rw [bI_0] at q
    rw [q]; rfl
  · rw [bI_n0] at q
    rw [q]; rfl
theorem sim_trades {x : Int32} (I : Inv h) : SM G mX9_trades mX10_trades [.int x] h := by
  have J := I
  obtain ⟨C, D, R⟩ := I
  obtain ⟨r1, r2, r3, r4, -⟩ := R
  have hC := r2.2.1
  have hD := r2.2.2.2.1
  refine e_X9_trades ?_
  have outer := dh_up (P := fun a => ∀ n : Int32, (∀ r : Int32, dh_J G mX10_trades 4 [some (.ref 61), some (.int x), some (.int n), some (.int (nI a)), none, none, none, none, none] [] h (fun v2 h2 => v2 = some (.int r) ∧ Inv h2) → dh_C G mX10_trades [.ref 61, .int x] h (fun v2 h2 => v2 = some (.int r) ∧ Inv h2)) → dh_J G mX9_trades 4 [some (.ref 0), some (.int x), some (.int n), some (.int (nI a)), none] [] h (fun v h1 => ∃ r : Int32, v = some (.int r) ∧ dh_C G mX10_trades [.ref 61, .int x] h1 (fun v2 h2 => v2 = some (.int r) ∧ Inv h2))) C ?_ ?_ 0 (by omega) (nI 0) (fun r q => e_X10_trades q)
  · exact outer
  · intro n kk
    refine w_X9_trades_4 ⟨fun _ => ⟨fun q => ⟨_, rfl, kk _ (w_X10_trades_4 ⟨fun _ => ⟨fun _ => ⟨rfl, J⟩, fun z => absurd z q⟩, fun z => absurd (Int32.le_refl _) (by rw [r1.1] at z; exact z)⟩)⟩, fun q => ⟨_, rfl, kk _ (w_X10_trades_4 ⟨fun _ => ⟨fun z => absurd q z, fun _ => ⟨rfl, J⟩⟩, fun z => absurd (Int32.le_refl _) (by rw [r1.1] at z; exact z)⟩)⟩⟩, fun z => absurd (Int32.le_refl _) (by rw [r2.1] at z; exact z)⟩
  · intro a ha ih n kk
    refine w_X9_trades_4 ⟨fun q => ?_, fun _ => ?_⟩
    · rw [r2.1, nI_leI (by omega) (by omega)] at q
      omega
    · rw [nI_add]
      refine dh_up (P := fun b => ∀ n : Int32, (∀ r : Int32, dh_J G mX10_trades 17 [some (.ref 61), some (.int x), some (.int n), some (.int (nI a)), some (.int (nI b)), none, none, none, none] [] h (fun v2 h2 => v2 = some (.int r) ∧ Inv h2) → dh_C G mX10_trades [.ref 61, .int x] h (fun v2 h2 => v2 = some (.int r) ∧ Inv h2)) → dh_J G mX9_trades 20 [some (.ref 0), some (.int x), some (.int n), some (.int (nI a)), some (.int (nI b))] [] h (fun v h1 => ∃ r : Int32, v = some (.int r) ∧ dh_C G mX10_trades [.ref 61, .int x] h1 (fun v2 h2 => v2 = some (.int r) ∧ Inv h2))) C ?_ ?_ (a + 1) (by omega) n (fun r q => kk r (w_X10_trades_4 ⟨fun z => ?_, fun _ => ?_⟩))
      · intro n kk2
        refine w_X9_trades_20 ⟨fun _ => ?_, fun z => absurd (Int32.le_refl _) (by rw [r2.1] at z; exact z)⟩
        rw [nI_add]
        refine ih n (fun r q => kk2 r (w_X10_trades_17 ⟨fun _ => ?_, fun z => absurd (Int32.le_refl _) (by rw [r1.1] at z; exact z)⟩))
        rw [nI_add]
        exact q
      · intro b hb ih2 n kk2
        refine w_X9_trades_20 ⟨fun q => ?_, fun _ => d_tradeCalms r2 r4 ha hb (w_X9_trades_42 ⟨fun q => ⟨fun q2 => ?_, fun q2 => ?_⟩, fun q => ?_⟩)⟩
        · rw [r2.1, nI_leI (by omega) (by omega)] at q
          omega
        · rw [bI_n0] at q
          rw [nI_add]
          exact ih2 _ (fun r z => kk2 r (m_trade r1 (mO_of r2) (mH_of r4) ha hb (fun y => absurd q (by rw [y]; decide)) (fun _ _ => z) (fun _ y => absurd y q2)))
        · rw [bI_n0] at q
          exact ⟨_, rfl, kk2 _ (m_trade r1 (mO_of r2) (mH_of r4) ha hb (fun y => absurd q (by rw [y]; decide)) (fun _ y => absurd q2 y) (fun _ _ => ⟨rfl, J⟩))⟩
        · rw [bI_0] at q
          rw [nI_add]
          exact ih2 _ (fun r z => kk2 r (m_trade r1 (mO_of r2) (mH_of r4) ha hb (fun _ => z) (fun y _ => absurd y (by rw [q]; decide)) (fun y _ => absurd y (by rw [q]; decide))))
      · rw [r1.1, nI_leI (by omega) (by omega)] at z
        omega
      · rw [nI_add]
        exact q
end S7
