/-! pairs: give, drop, pick, boil, cold -/
section S2
variable {G : dh_G} {h g : dh_H} {C D : Nat} {Q : Option Value → dh_H → Prop}
theorem mN_nt (hN : mN h C D) (b : Nat) : mN (nt h b) C D := by
  refine ⟨?_, hN.2.1, ?_, hN.2.2.2⟩
  · rw [nt_61 (by decide)]; exact hN.1
  · rw [nt_61 (by decide)]; exact hN.2.2.1
theorem mO_nt (hO : mO h C D) (b : Nat) : mO (nt h b) C D := fun c hc => by rw [nt_n (by decide) (by decide)]; exact hO c hc
theorem holder_nt (h : dh_H) (b C : Nat) (x : Int32) : holder (nt h b) C x = holder h C x := by
  unfold holder
  rw [nt_n (by decide) (by decide)]
theorem canB_nt (h : dh_H) (b C d c : Nat) : canB (nt h b) C d c = canB h C d c := by
  unfold canB
  rw [holder_nt, nt_n (by decide) (by decide)]
theorem tk_nt (h : dh_H) (b c d : Nat) : tk (nt h b) c d = tk h c d := by
  unfold tk tkB
  rw [nt_n (a := 65) (by decide) (by decide), nt_n (a := 66) (by decide) (by decide), nt_n (a := 67) (by decide) (by decide)]
theorem c_give {x1 x2 : Int32} {b : Nat} (hN : mN h C D) (hO : mO h C D) (hb : h 61 26 = nI b) (hb20 : b ≤ 20)
    (k1 : (ixB x1 D && ixB x2 C) = false → Q (some (.int (-1000000001))) h)
    (k2 : ∀ d c, d < D → c < C → x1 = nI d → x2 = nI c → canB h C d c = false → Q (some (.int (-1000000003))) h)
    (k3 : ∀ d c, d < D → c < C → x1 = nI d → x2 = nI c → canB h C d c = true → Q (some (.int (bI (tk h c d)))) (hr (nt h b) 68 (gvF (nt h b) C d c))) : dh_C G mX10_give [.ref 61, .int x1, .int x2] h Q := by
  have hC := hN.2.1
  have hD := hN.2.2.2
  refine e_X10_give (c_isDummy hN (w_X10_give_5 ⟨fun q => ?_, fun q => c_isChild hN (w_X10_give_13 ⟨fun q2 => ?_, fun q2 => ?_⟩)⟩))
  · rw [bI_0] at q
    exact k1 (by rw [q]; rfl)
  · rw [bI_n0] at q q2
    obtain ⟨d, hd, rfl⟩ := ixB_of (by omega) q
    obtain ⟨c, hc, rfl⟩ := ixB_of (by omega) q2
    refine c_canGive hN hc (w_X10_give_25 ⟨fun q3 => ?_, fun q3 => ?_⟩)
    · rw [bI_n0] at q3
      refine c_note hb hb20 (w_X10_give_35 (c_gives (mN_nt hN b) (mO_nt hO b) hc hd ?_))
      have k := k3 d c hd hc rfl rfl q3
      rw [tk_nt]
      refine w_X10_give_41 ⟨fun q4 => ?_, fun q4 => ?_⟩
      · rw [bI_0] at q4
        rw [q4] at k
        exact k
      · rw [bI_n0] at q4
        rw [q4] at k
        exact k
    · rw [bI_0] at q3
      exact k2 d c hd hc rfl rfl q3
  · rw [bI_0] at q2
    exact k1 (by rw [q2]; simp)
theorem d_give {x1 x2 : Int32} {t0 b : Nat} (hP : PR h g C D) (hX : PX h g) (hA : PA h g C D t0 b) (hW : WV (wv h) (g 68) C D)
    (k1 : (ixB x1 D && ixB x2 C) = false → Q (some (.int (-1000000001))) h)
    (k2 : ∀ d c, d < D → c < C → x1 = nI d → x2 = nI c → canB g C d c = false → Q (some (.int (-1000000003))) h)
    (k3 : ∀ d c, d < D → c < C → x1 = nI d → x2 = nI c → canB g C d c = true → ∀ h1, fB h h1 → PA h1 (nt g b) C D ((t0 + 1) % 20) (nb b) → WV (wv h1) (gvF (nt g b) C d c) C D → Q (some (.int (bI (tk g c d)))) h1) : dh_C G mX9_give [.ref 0, .int x1, .int x2] h Q := by
  have hC := hP.2.1
  have hD := hP.2.2.2.1
  refine e_X9_give (d_hasDummy hP.2.2.1 hD (w_X9_give_8 ⟨fun q => ?_, fun q => d_hasChild hP.1 hC (w_X9_give_19 ⟨fun q2 => ?_, fun q2 => ?_⟩)⟩))
  · rw [bI_0] at q
    exact k1 (by rw [q]; rfl)
  · rw [bI_n0] at q q2
    obtain ⟨d, hd, rfl⟩ := ixB_of (by omega) q
    obtain ⟨c, hc, rfl⟩ := ixB_of (by omega) q2
    refine d_canHand hP hW hd hc (w_X9_give_34 ⟨fun q3 => ?_, fun q3 => ?_⟩)
    · rw [bI_n0] at q3
      refine d_remember hC hD hA hW (fun h1 f1 A1 => w_X9_give_51 ?_)
      have W1 : WV (wv h1) (nt g b 68) C D := by
        rw [wv_cg (h := h) (fun a _ _ => f1 a (by omega))]
        exact WV_nt hW b
      have P1 : PR h1 (nt g b) C D := PR_cg (PR_nt hP b) (fun a _ _ => f1 a (by omega)) (fun _ _ _ => rfl)
      have L1 : PL h1 (nt g b) := by
        have := PL_nt hX.2.2.1 b
        unfold PL at this ⊢
        rw [f1 3 (by omega)]
        exact this
      refine d_hand P1 L1 W1 hd hc (by rw [canB_nt]; exact q3) (fun h2 f2 W2 => w_X9_give_60 ?_)
      have P2 : PR h2 (nt g b) C D := PR_fW P1 f2
      refine d_takes P2 hc ?_
      rw [ixB_nI (by omega), nI_clamp (by omega), tk_nt]
      simp only [hd, decide_true, Bool.true_and]
      have k := k3 d c hd hc rfl rfl q3 h2 (fun a ha => by rw [f2 a (by omega), f1 a (by omega)]) (PA_cg A1 (f2 25 (by omega)) (f2 26 (by omega)) rfl rfl) W2
      refine w_X9_give_69 ⟨fun q4 => ?_, fun q4 => ?_⟩
      · rw [bI_0] at q4
        rw [q4] at k
        exact k
      · rw [bI_n0] at q4
        rw [q4] at k
        exact k
    · rw [bI_0] at q3
      exact k2 d c hd hc rfl rfl q3
  · rw [bI_0] at q2
    exact k1 (by rw [q2]; simp)
/-- behind an action that noted the state and changed the now row alone -/
theorem RR_note {h1 : dh_H} {b s : Nat} {f : Nat → Int32} (R : RR h h C D) (r6 : DR h h s) (fb : fB h h1) (A : ∃ t b', PA h1 (nt h b) C D t b') (W : WV (wv h1) f C D) : RR h1 (hr (nt h b) 68 f) C D := by
  obtain ⟨t, b', A⟩ := A
  refine RR_act R (fun a ha h2 _ => fb a h2) (fun a h2 h3 h4 => ?_) (fun k h2 h3 => ?_) ?_ ⟨t, b', PA_cg A rfl rfl rfl rfl⟩ ⟨s, ?_, ?_, r6.2.2⟩
  · rw [hr_n h3, nt_n (by omega) h4]
  · rw [hr_n (by decide), nt_61 h2]
  · rw [hr_i]; exact W
  · rw [fb 54 (by omega)]; exact r6.1
  · rw [hr_n (by decide), nt_61 (by decide)]; exact r6.2.1
theorem sim_give {x1 x2 : Int32} (I : Inv h) : SM G mX9_give mX10_give [.int x1, .int x2] h := by
  obtain ⟨C, D, R⟩ := I
  have R' := R
  obtain ⟨r1, r2, r3, r4, ⟨t0, b, r5⟩, ⟨s, r6⟩, -⟩ := R'
  have hC := r2.2.1
  have hD := r2.2.2.2.1
  refine d_give r2 r3 r5 r4 (fun q => ⟨_, rfl, ?_⟩) (fun d c hd hc e1 e2 q => ⟨_, rfl, ?_⟩) (fun d c hd hc e1 e2 q h1 f A W => SM_end (fB_hi f) ?_)
  · refine c_give r1 (mO_of r2) r5.2.2.2.2.1 r5.2.2.2.1 (fun _ => ⟨rfl, C, D, R⟩) (fun d c hd hc e1 e2 _ => ?_) (fun d c hd hc e1 e2 _ => ?_)
    · rw [e1, e2, ixB_nI (by omega), ixB_nI (by omega)] at q
      simp [hd, hc] at q
    · rw [e1, e2, ixB_nI (by omega), ixB_nI (by omega)] at q
      simp [hd, hc] at q
  · refine c_give r1 (mO_of r2) r5.2.2.2.2.1 r5.2.2.2.1 (fun q2 => ?_) (fun _ _ _ _ _ _ _ => ⟨rfl, C, D, R⟩) (fun d' c' hd' hc' e1' e2' q' => ?_)
    · rw [e1, e2, ixB_nI (by omega), ixB_nI (by omega)] at q2
      simp [hd, hc] at q2
    · rw [e1, nI_eq (by omega) (by omega)] at e1'
      rw [e2, nI_eq (by omega) (by omega)] at e2'
      rw [← e1', ← e2', q] at q'
      exact absurd q' (by decide)
  · refine c_give (h := mix h1 h) (b := b) (C := C) (D := D) r1 (mO_of r2) r5.2.2.2.2.1 r5.2.2.2.1 (fun q2 => ?_) (fun d' c' hd' hc' e1' e2' q' => ?_) (fun d' c' hd' hc' e1' e2' q' => ?_)
    · rw [e1, e2, ixB_nI (by omega), ixB_nI (by omega)] at q2
      simp [hd, hc] at q2
    · rw [e1, nI_eq (by omega) (by omega)] at e1'
      rw [e2, nI_eq (by omega) (by omega)] at e2'
      rw [← e1', ← e2', show canB (mix h1 h) C d c = canB h C d c from rfl, q] at q'
      exact absurd q' (by decide)
    · rw [e1, nI_eq (by omega) (by omega)] at e1'
      rw [e2, nI_eq (by omega) (by omega)] at e2'
      subst e1' e2'
      rw [mix_nt, mix_gvF, mix_hr _ _ (by decide)]
      exact ⟨rfl, C, D, RR_mix (RR_note R r6 f ⟨_, _, A⟩ W)⟩
theorem c_drop {x : Int32} {b : Nat} (hN : mN h C D) (hb : h 61 26 = nI b) (hb20 : b ≤ 20)
    (k1 : ixB x D = false → Q (some (.int (-1000000001))) h)
    (k2 : ∀ d, d < D → x = nI d → holder h C (nI d) = -1 → Q (some (.int (-1000000003))) h)
    (k3 : ∀ d c, d < D → c < C → x = nI d → holder h C (nI d) = nI c → Q (some (.int (nI c))) (hr (nt h b) 68 (dpF (nt h b 68) d c))) : dh_C G mX10_drop [.ref 61, .int x] h Q := by
  have hC := hN.2.1
  have hD := hN.2.2.2
  refine e_X10_drop (c_isDummy hN (w_X10_drop_5 ⟨fun q => ?_, fun q => ?_⟩))
  · rw [bI_n0] at q
    obtain ⟨d, hd, rfl⟩ := ixB_of (by omega) q
    refine c_holderOf hN (w_X10_drop_16 ⟨fun q2 => ?_, fun q2 => k2 d hd rfl q2⟩)
    obtain ⟨c, hc, e, -⟩ := laF_in q2
    have e : holder h C (nI d) = nI c := e
    refine c_note hb hb20 (w_X10_drop_29 (c_drops (mN_nt hN b) hc hd (by rw [holder_nt]; exact e) (w_X10_drop_34 ?_)))
    rw [e]
    exact k3 d c hd hc rfl e
  · rw [bI_0] at q
    exact k1 q
theorem d_drop {x : Int32} {t0 b : Nat} (hP : PR h g C D) (hA : PA h g C D t0 b) (hW : WV (wv h) (g 68) C D)
    (k1 : ixB x D = false → Q (some (.int (-1000000001))) h)
    (k2 : ∀ d, d < D → x = nI d → holder g C (nI d) = -1 → Q (some (.int (-1000000003))) h)
    (k3 : ∀ d c, d < D → c < C → x = nI d → holder g C (nI d) = nI c → ∀ h1, fB h h1 → PA h1 (nt g b) C D ((t0 + 1) % 20) (nb b) → WV (wv h1) (dpF (nt g b 68) d c) C D → Q (some (.int (nI c))) h1) : dh_C G mX9_drop [.ref 0, .int x] h Q := by
  have hC := hP.2.1
  have hD := hP.2.2.2.1
  refine e_X9_drop (d_hasDummy hP.2.2.1 hD (w_X9_drop_8 ⟨fun q => ?_, fun q => ?_⟩))
  · rw [bI_n0] at q
    obtain ⟨d, hd, rfl⟩ := ixB_of (by omega) q
    refine d_holderOf hP hW hd (w_X9_drop_22 ⟨fun q2 => ?_, fun q2 => k2 d hd rfl q2⟩)
    obtain ⟨c, hc, e, e2⟩ := laF_in q2
    have e : holder g C (nI d) = nI c := e
    have e2 : g 68 (1 + c) = nI d := by simpa using e2
    refine d_remember hC hD hA hW (fun h1 f1 A1 => w_X9_drop_42 ?_)
    simp (disch := omega) only [nI_clamp]
    rw [e]
    have W1 : WV (wv h1) (nt g b 68) C D := by
      rw [wv_cg (h := h) (fun a _ _ => f1 a (by omega))]
      exact WV_nt hW b
    refine ⟨vp_in_nI (by omega) (by omega), k3 d c hd hc rfl e _ (fun a ha => by rw [dh_s_n (by omega), f1 a (by omega)]) (PA_cg A1 rfl rfl rfl rfl) ?_⟩
    rw [wv_s20 _ (by omega)]
    refine WV_drop hC hD W1 hc hd ((W1.2.2.1 d c hd hc).mpr ?_)
    rw [nt_n (by decide) (by decide)]
    exact e2
  · rw [bI_0] at q
    exact k1 q
theorem sim_drop {x : Int32} (I : Inv h) : SM G mX9_drop mX10_drop [.int x] h := by
  obtain ⟨C, D, R⟩ := I
  have R' := R
  obtain ⟨r1, r2, r3, r4, ⟨t0, b, r5⟩, ⟨s, r6⟩, -⟩ := R'
  have hC := r2.2.1
  have hD := r2.2.2.2.1
  refine d_drop r2 r5 r4 (fun q => ⟨_, rfl, ?_⟩) (fun d hd e1 q => ⟨_, rfl, ?_⟩) (fun d c hd hc e1 q h1 f A W => SM_end (fB_hi f) ?_)
  · refine c_drop r1 r5.2.2.2.2.1 r5.2.2.2.1 (fun _ => ⟨rfl, C, D, R⟩) (fun d hd e1 _ => ?_) (fun d c hd hc e1 _ => ?_)
    · rw [e1, ixB_nI (by omega)] at q
      simp [hd] at q
    · rw [e1, ixB_nI (by omega)] at q
      simp [hd] at q
  · refine c_drop r1 r5.2.2.2.2.1 r5.2.2.2.1 (fun q2 => ?_) (fun _ _ _ _ => ⟨rfl, C, D, R⟩) (fun d' c' hd' hc' e1' q' => ?_)
    · rw [e1, ixB_nI (by omega)] at q2
      simp [hd] at q2
    · rw [e1, nI_eq (by omega) (by omega)] at e1'
      rw [← e1', q] at q'
      exact absurd q' (m1_ne_nI (by omega))
  · refine c_drop (h := mix h1 h) (b := b) (C := C) (D := D) r1 r5.2.2.2.2.1 r5.2.2.2.1 (fun q2 => ?_) (fun d' hd' e1' q' => ?_) (fun d' c' hd' hc' e1' q' => ?_)
    · rw [e1, ixB_nI (by omega)] at q2
      simp [hd] at q2
    · rw [e1, nI_eq (by omega) (by omega)] at e1'
      rw [← e1', show holder (mix h1 h) C (nI d) = holder h C (nI d) from rfl, q] at q'
      exact absurd q' (nI_ne_m1 (by omega))
    · rw [e1, nI_eq (by omega) (by omega)] at e1'
      subst e1'
      rw [show holder (mix h1 h) C (nI d) = holder h C (nI d) from rfl, q, nI_eq (by omega) (by omega)] at q'
      subst q'
      rw [mix_nt, mix_hr _ _ (by decide)]
      exact ⟨rfl, C, D, RR_mix (RR_note R r6 f ⟨_, _, A⟩ W)⟩
def pkF (n : Nat → Int32) (d : Nat) : Nat → Int32 := upd n 19 (n 19 &&& ((nI 1 <<< (nI d &&& 31)) ^^^ (-1)))
theorem c_pick {x : Int32} {b : Nat} (hN : mN h C D) (hb : h 61 26 = nI b) (hb20 : b ≤ 20)
    (k1 : ixB x D = false → Q (some (.int (-1000000001))) h)
    (k2 : ∀ d, d < D → x = nI d → hasB (h 68 19) (nI d) = false → Q (some (.int (-1000000003))) h)
    (k3 : ∀ d, d < D → x = nI d → hasB (h 68 19) (nI d) = true → Q (some (.int (pkF (nt h b 68) d 19))) (hr (nt h b) 68 (pkF (nt h b 68) d))) : dh_C G mX10_pick [.ref 61, .int x] h Q := by
  have hD := hN.2.2.2
  refine e_X10_pick (c_isDummy hN (w_X10_pick_5 ⟨fun q => ?_, fun q => ?_⟩))
  · rw [bI_n0] at q
    obtain ⟨d, hd, rfl⟩ := ixB_of (by omega) q
    refine c_has (w_X10_pick_22 ⟨fun q2 => ?_, fun q2 => ?_⟩)
    · rw [bI_n0] at q2
      refine c_note hb hb20 (w_X10_pick_32 ?_)
      have k := k3 d hd rfl q2
      unfold pkF at k
      rw [us] at k
      exact k
    · rw [bI_0] at q2
      exact k2 d hd rfl q2
  · rw [bI_0] at q
    exact k1 q
theorem d_pick {x : Int32} {t0 b : Nat} (hP : PR h g C D) (hA : PA h g C D t0 b) (hW : WV (wv h) (g 68) C D)
    (k1 : ixB x D = false → Q (some (.int (-1000000001))) h)
    (k2 : ∀ d, d < D → x = nI d → hasB (g 68 19) (nI d) = false → Q (some (.int (-1000000003))) h)
    (k3 : ∀ d, d < D → x = nI d → hasB (g 68 19) (nI d) = true → ∀ h1, fB h h1 → PA h1 (nt g b) C D ((t0 + 1) % 20) (nb b) → WV (wv h1) (pkF (nt g b 68) d) C D → Q (some (.int (pkF (nt g b 68) d 19))) h1) : dh_C G mX9_pick [.ref 0, .int x] h Q := by
  have hC := hP.2.1
  have hD := hP.2.2.2.1
  refine e_X9_pick (d_hasDummy hP.2.2.1 hD (w_X9_pick_8 ⟨fun q => ?_, fun q => ?_⟩))
  · rw [bI_n0] at q
    obtain ⟨d, hd, rfl⟩ := ixB_of (by omega) q
    simp (disch := omega) only [nI_clamp]
    have hf := floor_pl hD hW hd
    rw [wv_pl h (by omega)] at hf
    refine ⟨vp_in_nI (by omega) (by omega), fun q2 => ?_, fun q2 => k2 d hd rfl (by rw [hf]; simp [q2])⟩
    refine d_remember hC hD hA hW (fun h1 f1 A1 => w_X9_pick_42 ?_)
    simp (disch := omega) only [nI_clamp]
    have W1 : WV (wv h1) (nt g b 68) C D := by
      rw [wv_cg (h := h) (fun a _ _ => f1 a (by omega))]
      exact WV_nt hW b
    have W2 : WV (wv (dh_s h1 20 d (-1))) (pkF (nt g b 68) d) C D := by
      rw [wv_s20 _ (by omega)]
      refine WV_pick hC hD W1 hd ?_
      rw [wv_pl h1 (by omega), f1 20 (by omega)]
      exact q2
    have P2 : PR (dh_s h1 20 d (-1)) (nt g b) C D := PR_cg (PR_nt hP b) (fun a _ _ => by rw [dh_s_n (by omega), f1 a (by omega)]) (fun _ _ _ => rfl)
    refine ⟨vp_in_nI (by omega) (by omega), d_setAt P2 (w_X9_pick_61 ?_)⟩
    have e19 : stF (fun i => decide (dh_s h1 20 d (-1) 20 i = -2)) D = pkF (nt g b 68) d 19 := by
      rw [W2.2.2.2.2.1]
      exact stF_congr (fun i hi => by rw [wv_pl _ (by omega)])
    rw [e19]
    exact k3 d hd rfl (by rw [hf]; simp [q2]) _ (fun a ha => by rw [dh_s_n (by omega), f1 a (by omega)]) (PA_cg A1 rfl rfl rfl rfl) W2
  · rw [bI_0] at q
    exact k1 q
theorem sim_pick {x : Int32} (I : Inv h) : SM G mX9_pick mX10_pick [.int x] h := by
  obtain ⟨C, D, R⟩ := I
  have R' := R
  obtain ⟨r1, r2, r3, r4, ⟨t0, b, r5⟩, ⟨s, r6⟩, -⟩ := R'
  have hD := r2.2.2.2.1
  refine d_pick r2 r5 r4 (fun q => ⟨_, rfl, ?_⟩) (fun d hd e1 q => ⟨_, rfl, ?_⟩) (fun d hd e1 q h1 f A W => SM_end (fB_hi f) ?_)
  · refine c_pick r1 r5.2.2.2.2.1 r5.2.2.2.1 (fun _ => ⟨rfl, C, D, R⟩) (fun d hd e1 _ => ?_) (fun d hd e1 _ => ?_)
    · rw [e1, ixB_nI (by omega)] at q
      simp [hd] at q
    · rw [e1, ixB_nI (by omega)] at q
      simp [hd] at q
  · refine c_pick r1 r5.2.2.2.2.1 r5.2.2.2.1 (fun q2 => ?_) (fun _ _ _ _ => ⟨rfl, C, D, R⟩) (fun d' hd' e1' q' => ?_)
    · rw [e1, ixB_nI (by omega)] at q2
      simp [hd] at q2
    · rw [e1, nI_eq (by omega) (by omega)] at e1'
      rw [← e1', q] at q'
      exact absurd q' (by decide)
  · refine c_pick (h := mix h1 h) (b := b) (C := C) (D := D) r1 r5.2.2.2.2.1 r5.2.2.2.1 (fun q2 => ?_) (fun d' hd' e1' q' => ?_) (fun d' hd' e1' q' => ?_)
    · rw [e1, ixB_nI (by omega)] at q2
      simp [hd] at q2
    · rw [e1, nI_eq (by omega) (by omega)] at e1'
      rw [← e1', show mix h1 h 68 19 = h 68 19 from rfl, q] at q'
      exact absurd q' (by decide)
    · rw [e1, nI_eq (by omega) (by omega)] at e1'
      subst e1'
      rw [mix_nt, mix_hr _ _ (by decide)]
      exact ⟨rfl, C, D, RR_mix (RR_note R r6 f ⟨_, _, A⟩ W)⟩
theorem sim_boil (I : Inv h) : SM G mX9_boil mX10_boil [] h := by
  obtain ⟨C, D, R⟩ := I
  have R' := R
  obtain ⟨r1, r2, r3, r4, ⟨t0, b, r5⟩, ⟨s, r6⟩, -⟩ := R'
  have hC := r2.2.1
  have hD := r2.2.2.2.1
  refine e_X9_boil (d_setAt r2 ?_)
  rw [box_pl r2 r4]
  refine w_X9_boil_8 ⟨fun q => ?_, fun q => ⟨_, rfl, ?_⟩⟩
  · refine d_remember hC hD r5 r4 (fun h1 f1 A1 => w_X9_boil_27 ?_)
    have W1 : WV (wv h1) (nt h b 68) C D := by
      rw [wv_cg (h := h) (fun a _ _ => f1 a (by omega))]
      exact WV_nt r4 b
    have P1 : PR h1 (nt h b) C D := PR_cg (PR_nt r2 b) (fun a _ _ => f1 a (by omega)) (fun _ _ _ => rfl)
    refine d_boilAll P1 W1 (fun h2 f2 W2 => w_X9_boil_35 (SM_end (h := h) (fun a ha => by rw [f2 a (by omega), f1 a (by omega)]) ?_))
    refine c_boil (h := mix h2 h) (b := b) (C := C) (D := D) r1 r5.2.2.2.2.1 r5.2.2.2.1 (fun z => absurd z q) (fun _ => ?_)
    rw [mix_nt, mix_hr _ _ (by decide)]
    refine ⟨rfl, C, D, RR_mix (RR_note R r6 (fun a ha => by rw [f2 a (by omega), f1 a (by omega)]) ⟨_, _, PA_cg A1 (f2 25 (by omega)) (f2 26 (by omega)) rfl rfl⟩ ?_)⟩
    rw [nt_n (by decide) (by decide)] at W2
    exact W2
  · exact c_boil r1 r5.2.2.2.2.1 r5.2.2.2.1 (fun _ => ⟨rfl, C, D, R⟩) (fun z => absurd q z)
theorem sim_cold {x : Int32} (I : Inv h) : SM G mX9_cold mX10_cold [.int x] h := by
  obtain ⟨C, D, R⟩ := I
  have R' := R
  obtain ⟨r1, r2, r3, r4, ⟨t0, b, r5⟩, ⟨s, r6⟩, -⟩ := R'
  have hC := r2.2.1
  have hD := r2.2.2.2.1
  refine e_X9_cold (d_hasChild r2.1 hC (w_X9_cold_8 ⟨fun q => ?_, fun q => ⟨_, rfl, ?_⟩⟩))
  · rw [bI_n0] at q
    obtain ⟨c, hc, rfl⟩ := ixB_of (by omega) q
    refine d_remember hC hD r5 r4 (fun h1 f1 A1 => w_X9_cold_25 ?_)
    simp (disch := omega) only [nI_clamp]
    have W1 : WV (wv h1) (nt h b 68) C D := by
      rw [wv_cg (h := h) (fun a _ _ => f1 a (by omega))]
      exact WV_nt r4 b
    have e3 : h1 3 1 = h 61 17 := by rw [f1 3 (by omega)]; exact r3.2.2.1.1
    rw [dh_s_eq, e3]
    refine ⟨vp_in_nI (by omega) (by omega), vp_in_nI (by omega) (by omega), SM_end (h := h) (fun a ha => by rw [dh_s_n (by omega), f1 a (by omega)]) ?_⟩
    refine e_X10_cold (c_isChild (C := C) (D := D) r1 (w_X10_cold_5 ⟨fun _ => ?_, fun z => ?_⟩))
    · refine c_note (b := b) r5.2.2.2.2.1 r5.2.2.2.1 (w_X10_cold_15 ?_)
      simp (disch := omega) only [nI_add, nI_clamp]
      rw [mix_nt, mix_s _ _ (by decide), mix_at _ _ (by decide), nt_61 (by decide)]
      refine ⟨vp_in_nI (by omega) (by omega), rfl, C, D, RR_mix (RR_note R r6 (fun a ha => by rw [dh_s_n (by omega), f1 a (by omega)]) ⟨_, _, PA_cg A1 rfl rfl rfl rfl⟩ ?_)⟩
      rw [wv_s23 _ (by omega)]
      exact WV_cold hC hD W1 hc r3.2.2.1.2
    · rw [bI_0, q] at z
      exact absurd z (by decide)
  · refine e_X10_cold (c_isChild r1 (w_X10_cold_5 ⟨fun z => absurd q z, fun _ => ⟨rfl, C, D, R⟩⟩))
end S2
