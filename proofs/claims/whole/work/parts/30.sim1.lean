/-! pairs: hour, give, drop, pick, boil, cold, drift, undo -/
section S1
variable {G : dh_G} {h g : dh_H} {C D : Nat} {Q : Option Value → dh_H → Prop}
theorem d_refusal {x : Int32} (hX : PX h g) (hW : WV (wv h) (g 68) C D) (k : Q (some (.int (noH g x))) h) : dh_C G mX9_refusalOfHours [.ref 0, .int x] h Q := by
  have e1 : h 19 1 = g 68 0 := hW.1
  refine e_X9_refusalOfHours ?_
  rw [e1, hX.1]
  unfold noH inB at k
  refine ⟨fun q => ?_, fun q => ⟨fun q2 => ⟨fun q3 => ⟨fun q4 => ?_, fun q4 => ?_⟩, fun q3 => ?_⟩, fun q2 => ?_⟩⟩
  · simpa [q] using k
  · have q2' : ¬ nI 60 < x := by rw [Int32.not_lt]; exact q2
    simpa [q, q2', q3, q4] using k
  · have q2' : ¬ nI 60 < x := by rw [Int32.not_lt]; exact q2
    simpa [q, q2', q3, q4] using k
  · have q2' : ¬ nI 60 < x := by rw [Int32.not_lt]; exact q2
    simpa [q, q2', q3] using k
  · have q2' : nI 60 < x := by rw [← Int32.not_le]; exact q2
    simpa [q, q2'] using k
theorem fB_hi {h h1 : dh_H} (f : fB h h1) : ∀ a, 61 ≤ a → h1 a = h a := fun a ha => f a (by omega)
theorem PR_nt (hP : PR h g C D) (b : Nat) : PR h (nt g b) C D := PR_cg hP (fun _ _ _ => rfl) (fun a h1 h2 => nt_n (by omega) (by omega))
theorem PL_nt (hL : PL h g) (b : Nat) : PL h (nt g b) := by
  unfold PL at hL ⊢
  rw [nt_61 (by decide)]
  exact hL
theorem WV_nt {w : Nat → Int32} (hW : WV w (g 68) C D) (b : Nat) : WV w (nt g b 68) C D := by
  rw [nt_n (by decide) (by decide)]
  exact hW
theorem d_hour {x : Int32} {t0 b : Nat} (hP : PR h g C D) (hX : PX h g) (hA : PA h g C D t0 b) (hW : WV (wv h) (g 68) C D)
    (k1 : ¬ noH g x = 0 → Q (some (.int (noH g x))) h)
    (k2 : ∀ t, 1 ≤ t → t ≤ 60 → x = nI t → noH g x = 0 → ∀ h1, fB h h1 → PA h1 (goT (nt g b) C t) C D ((t0 + 1) % 20) (nb b) → WV (wv h1) (goT (nt g b) C t 68) C D → Q (some (.int (goT (nt g b) C t 68 0))) h1) : dh_C G mX9_hour [.ref 0, .int x] h Q := by
  have hC := hP.2.1
  have hD := hP.2.2.2.1
  refine e_X9_hour (d_refusal hX hW (w_X9_hour_5 ⟨fun q => ?_, fun q => k1 q⟩))
  obtain ⟨t, h1, h2, rfl⟩ := noH_0 q
  have k := k2 t h1 h2 rfl q
  refine d_remember hC hD hA hW (fun h1 f1 A1 => w_X9_hour_23 ?_)
  have W1 : WV (wv h1) (nt g b 68) C D := by
    rw [wv_cg (h := h) (fun a _ _ => f1 a (by omega))]
    exact WV_nt hW b
  have P1 : PR h1 (nt g b) C D := PR_cg (PR_nt hP b) (fun a _ _ => f1 a (by omega)) (fun _ _ _ => rfl)
  refine dh_up (P := fun i => ∀ hi, fW h1 hi → WV (wv hi) (goT (nt g b) C i 68) C D → dh_J G mX9_hour 25 [some (.ref 0), some (.int (nI t)), none, some (.int (nI i))] [] hi Q) t ?_ ?_ 0 (by omega) h1 (fW_rf _) W1
  · intro hi f W
    refine w_X9_hour_25 ⟨fun _ => ?_, fun q => absurd (Int32.le_refl _) q⟩
    rw [show hi 19 1 = goT (nt g b) C t 68 0 from W.1]
    refine k hi (fun a ha => ?_) (PA_cg A1 (f 25 (by omega)) (f 26 (by omega)) (by rw [goT_n _ _ _ (by decide)]) (by rw [goT_n _ _ _ (by decide)])) W
    rw [f a (by omega), f1 a (by omega)]
  · intro i hi ih hh f W
    refine w_X9_hour_25 ?_
    simp (disch := omega) only [nI_leI]
    refine ⟨fun q => by omega, fun q => ?_⟩
    have P2 : PR hh (goT (nt g b) C i) C D := PR_cg P1 (fun a _ _ => f a (by omega)) (fun a _ _ => goT_n _ _ _ (by omega))
    refine d_passHour P2 W (fun h2 f2 W2 => w_X9_hour_37 ?_)
    rw [nI_add]
    refine ih h2 (fW_tr f f2) ?_
    rw [show goT (nt g b) C (i + 1) 68 = goF (goT (nt g b) C i) C from hr_i _ _ _]
    exact W2
theorem nt_f61 {b k : Nat} (h1 : k ≠ 26) (_ : k ≠ 30) : nt g b 61 k = g 61 k := nt_61 h1
theorem sim_hour {x : Int32} (I : Inv h) : SM G mX9_hour mX10_hour [.int x] h := by
  obtain ⟨C, D, R⟩ := I
  have R' := R
  obtain ⟨r1, r2, r3, r4, ⟨t0, b, r5⟩, ⟨s, r6⟩, -⟩ := R'
  refine d_hour r2 r3 r5 r4 (fun q => ?_) (fun t q1 q2 ex q3 h1 f A W => ?_)
  · refine SM_end (h := h) (fun _ _ => rfl) ?_
    rw [show mix h h = h from (mix_self (fun _ _ => rfl)).symm]
    refine c_hour r1 (mO_of r2) (mH_of r4) r5.2.2.2.2.1 r5.2.2.2.1 (fun _ => ⟨rfl, C, D, R⟩) (fun t a1 a2 a3 a4 => absurd a4 q)
  · refine SM_end (fB_hi f) ?_
    refine c_hour (h := mix h1 h) (b := b) (C := C) (D := D) r1 (mO_of r2) (mH_of r4) r5.2.2.2.2.1 r5.2.2.2.1 (fun q => absurd q3 q) (fun t' a1 a2 a3 a4 => ?_)
    have ett : t' = t := by
      rw [ex, nI_eq (by omega) (by omega)] at a3
      exact a3.symm
    subst ett
    rw [mix_nt, mix_goT]
    refine ⟨rfl, C, D, RR_mix (RR_act R (fun a ha h2 _ => f a h2) (fun a h2 h3 h4 => ?_) (fun k h2 h3 => ?_) W ⟨_, _, A⟩ ⟨s, ?_⟩)⟩
    · rw [goT_n _ _ _ h3, nt_n (by omega) h4]
    · rw [goT_n _ _ _ (by decide), nt_61 h2]
    · refine ⟨by rw [f 54 (by omega)]; exact r6.1, ?_, r6.2.2⟩
      rw [goT_n _ _ _ (by decide), nt_61 (by decide)]
      exact r6.2.1
theorem sim_undo (I : Inv h) : SM G mX9_undo mX10_undo [] h := by
  obtain ⟨C, D, R⟩ := I
  have R' := R
  obtain ⟨r1, r2, r3, r4, ⟨t0, b, r5⟩, ⟨s, r6⟩, -⟩ := R'
  refine d_undo r2.2.1 r2.2.2.2.1 r5 (fun q => ?_) (fun q h1 f A W => ?_)
  · refine SM_end (h := h) (fun _ _ => rfl) ?_
    rw [show mix h h = h from (mix_self (fun _ _ => rfl)).symm]
    exact c_undo r5.2.2.2.2.1 r5.2.2.2.1 (fun _ => ⟨rfl, C, D, R⟩) (fun z => by omega)
  · refine SM_end (fB_hi f) ?_
    refine c_undo (h := mix h1 h) (b := b) r5.2.2.2.2.1 r5.2.2.2.1 (fun z => by omega) (fun _ => ⟨rfl, C, D, ?_⟩)
    have e : unF (mix h1 h) b = mix h1 (unF h b) := by
      unfold unF
      rw [mix_s _ _ (by decide), mix_c _ _ (by decide) (by decide)]
    rw [e]
    refine RR_mix (RR_act R (fun a ha h2 _ => f a h2) (fun a h2 h3 h4 => ?_) (fun k h2 h3 => ?_) W ⟨_, _, A⟩ ⟨s, ?_⟩)
    · unfold unF
      rw [dh_c_n h3, dh_s_n (by omega)]
    · unfold unF
      rw [dh_c_n (by decide), dh_s_nk h2]
    · refine ⟨by rw [f 54 (by omega)]; exact r6.1, ?_, r6.2.2⟩
      exact r6.2.1
end S1
