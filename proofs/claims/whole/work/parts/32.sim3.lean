/-! pairs: drift, seed, fault, feed, tear, off, trial, write -/
section S3
variable {G : dh_G} {h g : dh_H} {C D : Nat} {Q : Option Value → dh_H → Prop}
theorem l_mask {a : Nat} (ha : a < 2 ^ 63) : lN a &&& (2147483647 : Int64) = lN (a % 2147483648) := by
  apply Int64.toBitVec_inj.mp
  rw [Int64.toBitVec_and]
  apply BitVec.eq_of_toNat_eq
  have e1 : (lN a).toBitVec = BitVec.ofNat 64 a := rfl
  have e2 : (lN (a % 2147483648)).toBitVec = BitVec.ofNat 64 (a % 2147483648) := rfl
  have e3 : (2147483647 : Int64).toBitVec.toNat = 2 ^ 31 - 1 := by decide
  rw [BitVec.toNat_and, e1, e2, e3, BitVec.toNat_ofNat, BitVec.toNat_ofNat, Nat.mod_eq_of_lt (show a < 2 ^ 64 by omega), Nat.and_two_pow_sub_one_eq_mod, Nat.mod_eq_of_lt (show a % 2147483648 < 2 ^ 64 by omega)]
theorem d_draw {s n : Nat} (hs : h 54 0 = nI s) (hs31 : s < 2 ^ 31) (hn : 0 < n) (hn31 : n < 2 ^ 31) (k : Q (some (.int (nI (drS s / 65536 % n)))) (dh_s h 54 0 (nI (drS s)))) : dh_C G mX1_draw [.ref 54, .int (nI n)] h Q := by
  have e : ((((nI s).toInt64 * (1103515245 : Int64)) + (12345 : Int64)) &&& (2147483647 : Int64)).toInt32 = nI (drS s) := by
    rw [nI_l hs31, show (1103515245 : Int64) = lN 1103515245 from rfl, show (12345 : Int64) = lN 12345 from rfl, lN_mul, lN_add, l_mask (by omega), lN_i]
    rfl
  refine e_X1_draw ⟨fun q => absurd q (nI_nle hn hn31), fun _ => ?_⟩
  rw [hs, e, pk_div (drS_lt s) (by decide) (by decide), pk_rem (Nat.lt_of_le_of_lt (Nat.div_le_self _ _) (drS_lt s)) hn hn31]
  exact ⟨by decide, nI_ne0 hn hn31, k⟩
/-- nothing but the ward and the seed has changed -/
def fD (h h1 : dh_H) : Prop := ∀ a, ¬ (19 ≤ a ∧ a ≤ 24) → a ≠ 54 → h1 a = h a
theorem s54_s54 (g : dh_H) (x y : Int32) : dh_s (dh_s g 54 0 x) 54 0 y = dh_s g 54 0 y := by
  funext a
  by_cases e1 : a = 54
  · subst e1
    funext k
    by_cases e : k = 0
    · subst e; rfl
    · rw [dh_s_nk e, dh_s_nk e, dh_s_nk e]
  · rw [dh_s_n e1, dh_s_n e1, dh_s_n e1]
theorem d_deed {s : Nat} (hP : PR h g C D) (hX : PX h g) (hW : WV (wv h) (g 68) C D) (hC0 : 0 < C) (hD0 : 0 < D) (hs : h 54 0 = nI s) (hs31 : s < 2 ^ 31) (k : ∀ h1, fD h h1 → h1 54 0 = nI (dr4 s) → WV (wv h1) (chF g C D s) C D → Q none h1) : dh_C G mX9_deedByDraws [.ref 0] h Q := by
  have hC := hP.2.1
  have hD := hP.2.2.2.1
  refine e_X9_deedByDraws ?_
  rw [hP.2.2.1]
  refine d_draw hs hs31 hD0 (by omega) (w_X9_deedByDraws_14 ?_)
  rw [show dh_s h 54 0 (nI (drS s)) 3 3 = h 3 3 from rfl, hP.1]
  refine d_draw (dh_s_eq _ _ _ _) (drS_lt s) hC0 (by omega) (w_X9_deedByDraws_29 ?_)
  rw [s54_s54]
  refine d_draw (dh_s_eq _ _ _ _) (drS_lt _) (by decide) (by decide) ?_
  rw [s54_s54]
  unfold chF at k
  have hd : drS s / 65536 % D < D := Nat.mod_lt _ hD0
  have hc : drS (drS s) / 65536 % C < C := Nat.mod_lt _ hC0
  have hw : drS (drS (drS s)) / 65536 % 4 < 4 := Nat.mod_lt _ (by decide)
  generalize drS s / 65536 % D = d at hd k ⊢
  generalize drS (drS s) / 65536 % C = c at hc k ⊢
  generalize drS (drS (drS s)) / 65536 % 4 = w at hw k ⊢
  have hs3 := drS_lt (drS (drS s))
  have e4 : dr4 s = drS (drS (drS (drS s))) := rfl
  generalize drS (drS (drS s)) = s3 at hs3 e4 ⊢
  have P3 : PR (dh_s h 54 0 (nI s3)) g C D := hP
  have W3 : WV (wv (dh_s h 54 0 (nI s3))) (g 68) C D := hW
  have fin : ∀ hh, fW (dh_s h 54 0 (nI s3)) hh → WV (wv hh) (chR g C d c w) C D → dh_J G mX9_deedByDraws 122 [some (.ref 0), none, some (.int (nI c)), none] [] hh Q := by
    intro hh f W
    have e54 : hh 54 0 = nI s3 := by rw [f 54 (by omega), dh_s_eq]
    refine w_X9_deedByDraws_122 (d_draw e54 hs3 (by decide) (by decide) ?_)
    rw [← e4]
    have W' : WV (wv (dh_s hh 54 0 (nI (dr4 s)))) (chR g C d c w) C D := W
    have e32 : dh_s hh 54 0 (nI (dr4 s)) 3 2 = g 61 18 := by
      rw [dh_s_n (by decide), f 3 (by omega), dh_s_n (by decide)]
      exact hX.2.2.2.1
    have e31 : dh_s hh 54 0 (nI (dr4 s)) 3 1 = g 61 17 := by
      rw [dh_s_n (by decide), f 3 (by omega), dh_s_n (by decide)]
      exact hX.2.2.1.1
    have ff : fD h (dh_s hh 54 0 (nI (dr4 s))) := fun a ha h2 => by rw [dh_s_n h2, f a ha, dh_s_n h2]
    refine w_X9_deedByDraws_131 ?_
    rw [e32, e31]
    simp (disch := omega) only [nI_clamp]
    refine ⟨fun q => ?_, fun q => ⟨vp_in_nI (by omega) (by omega), ?_⟩⟩
    · rw [if_pos q] at k
      exact k _ ff (dh_s_eq _ _ _ _) W'
    · rw [if_neg q] at k
      refine k _ (fun a ha h2 => by rw [dh_s_n (by omega)]; exact ff a ha h2) ?_ ?_
      · rw [dh_s_n (by decide), dh_s_eq]
      · rw [wv_s23 _ (by omega)]
        exact WV_cold hC hD W' hc hX.2.2.1.2
  refine w_X9_deedByDraws_38 ⟨fun q => ⟨fun q2 => ?_, fun q2 => ?_⟩, fun q => ?_⟩
  · have hw0 : ¬ w = 0 := fun e => q (by rw [e]; decide)
    have hw1 : ¬ w = 1 := fun e => q2 (by rw [e])
    refine d_canHand P3 W3 hd hc (w_X9_deedByDraws_110 ⟨fun q3 => ?_, fun q3 => ?_⟩)
    · rw [bI_0] at q3
      refine fin _ (fW_rf _) ?_
      rw [show chR g C d c w = g 68 by unfold chR; rw [if_neg hw0, if_neg hw1, q3, if_neg (by decide)]]
      exact W3
    · rw [bI_n0] at q3
      refine d_hand P3 hX.2.2.1 W3 hd hc q3 (fun h1 f1 W1 => fin h1 f1 ?_)
      rw [show chR g C d c w = gvF g C d c by unfold chR; rw [if_neg hw0, if_neg hw1, q3, if_pos rfl]]
      exact W1
  · have hw1 : w = 1 := by
      rw [nI_eq (by omega) (by decide)] at q2
      exact q2
    have ec : chR g C d c w = pkF (g 68) d := by unfold chR; rw [if_neg (by omega), if_pos hw1]; rfl
    simp (disch := omega) only [nI_clamp]
    refine ⟨vp_in_nI (by omega) (by omega), fun q3 => ?_, fun q3 => ⟨vp_in_nI (by omega) (by omega), ?_⟩⟩
    · refine fin _ (fW_rf _) ?_
      rw [ec]
      unfold pkF
      rw [clr_off hD W3 hd (by rw [wv_pl _ (by omega)]; exact q3), upd_same]
      exact W3
    · refine fin _ (fW_s (fW_rf _) ⟨by decide, by decide⟩) ?_
      rw [ec, wv_s20 _ (by omega)]
      exact WV_pick hC hD W3 hd (by rw [wv_pl _ (by omega)]; exact q3)
  · have hw0 : w = 0 := by
      rw [← nI_0, nI_eq (by omega) (by decide)] at q
      exact q
    refine d_holderOf P3 W3 hd (w_X9_deedByDraws_51 ⟨fun q2 => ?_, fun q2 => ?_⟩)
    · refine fin _ (fW_rf _) ?_
      rw [show chR g C d c w = g 68 by unfold chR; rw [if_pos hw0, if_pos q2]]
      exact W3
    · obtain ⟨c', hc', e, e2⟩ := laF_in q2
      have e : holder g C (nI d) = nI c' := e
      have e2 : g 68 (1 + c') = nI d := by simpa using e2
      simp (disch := omega) only [nI_clamp]
      refine ⟨vp_in_nI (by omega) (by omega), fin _ (fW_s (fW_rf _) ⟨by decide, by decide⟩) ?_⟩
      rw [show chR g C d c w = dpF (g 68) d c' by unfold chR; rw [if_pos hw0, if_neg q2, e, nI_clamp (by omega)], wv_s20 _ (by omega)]
      exact WV_drop hC hD W3 hc' hd ((W3.2.2.1 d c' hd hc').mpr e2)
theorem dfC_n (g : dh_H) (C D s : Nat) {a : Nat} (h1 : a ≠ 61) (h2 : a ≠ 68) : dfC g C D s a = g a := by
  unfold dfC
  by_cases q : 0 < C ∧ 0 < D
  · rw [if_pos q, hr_n h2, dh_s_n h1]
  · rw [if_neg q]
theorem dfC_61 (g : dh_H) (C D s : Nat) {k : Nat} (hk : k ≠ 30) : dfC g C D s 61 k = g 61 k := by
  unfold dfC
  by_cases q : 0 < C ∧ 0 < D
  · rw [if_pos q, hr_n (by decide), dh_s_nk hk]
  · rw [if_neg q]
theorem dfT_n (g : dh_H) (C D s t : Nat) {a : Nat} (h1 : a ≠ 61) (h2 : a ≠ 68) : dfT g C D s t a = g a := by
  induction t with
  | zero => rfl
  | succ t ih =>
    show hr (dfC (dfT g C D s t) C D (dfS C D s t)) 68 _ a = g a
    rw [hr_n h2, dfC_n _ _ _ _ h1 h2, ih]
theorem dfT_61 (g : dh_H) (C D s t : Nat) {k : Nat} (hk : k ≠ 30) : dfT g C D s t 61 k = g 61 k := by
  induction t with
  | zero => rfl
  | succ t ih =>
    show hr (dfC (dfT g C D s t) C D (dfS C D s t)) 68 _ 61 k = g 61 k
    rw [hr_n (by decide), dfC_61 _ _ _ _ hk, ih]
theorem PX_cg {h1 g1 : dh_H} (hX : PX h g) (f : h1 3 = h 3) (f2 : ∀ k, 16 ≤ k → k ≤ 18 → g1 61 k = g 61 k) : PX h1 g1 := by
  unfold PX PL at hX ⊢
  rw [f, f2 16 (by omega) (by omega), f2 17 (by omega) (by omega), f2 18 (by omega) (by omega)]
  exact hX
theorem d_drift {x : Int32} {t0 b s : Nat} (hP : PR h g C D) (hX : PX h g) (hA : PA h g C D t0 b) (hW : WV (wv h) (g 68) C D) (hs : h 54 0 = nI s) (hs31 : s < 2 ^ 31)
    (k1 : ¬ noH g x = 0 → Q (some (.int (noH g x))) h)
    (k2 : ∀ t, 1 ≤ t → t ≤ 60 → x = nI t → noH g x = 0 → ∀ h1, (∀ a, ¬ (19 ≤ a ∧ a ≤ 26) → a ≠ 54 → h1 a = h a) → h1 54 0 = nI (dfS C D s t) → PA h1 (dfT (nt g b) C D s t) C D ((t0 + 1) % 20) (nb b) → WV (wv h1) (dfT (nt g b) C D s t 68) C D → Q (some (.int (stF (calm (dfT (nt g b) C D s t)) C))) h1) : dh_C G mX9_drift [.ref 0, .int x] h Q := by
  have hC := hP.2.1
  have hD := hP.2.2.2.1
  refine e_X9_drift (d_refusal hX hW (w_X9_drift_5 ⟨fun q => ?_, fun q => k1 q⟩))
  obtain ⟨t, h1, h2, rfl⟩ := noH_0 q
  have k := k2 t h1 h2 rfl q
  refine d_remember hC hD hA hW (fun h1 f1 A1 => w_X9_drift_23 ?_)
  have W1 : WV (wv h1) (nt g b 68) C D := by
    rw [wv_cg (h := h) (fun a _ _ => f1 a (by omega))]
    exact WV_nt hW b
  have P1 : PR h1 (nt g b) C D := PR_cg (PR_nt hP b) (fun a _ _ => f1 a (by omega)) (fun _ _ _ => rfl)
  have X1 : PX h1 (nt g b) := PX_cg hX (f1 3 (by omega)) (fun k q1 q2 => nt_61 (by omega))
  refine dh_up (P := fun i => ∀ hi, fD h1 hi → hi 54 0 = nI (dfS C D s i) → WV (wv hi) (dfT (nt g b) C D s i 68) C D → dh_J G mX9_drift 25 [some (.ref 0), some (.int (nI t)), none, some (.int (nI i))] [] hi Q) t ?_ ?_ 0 (by omega) h1 (fun _ _ _ => rfl) (by rw [f1 54 (by omega)]; exact hs) W1
  · intro hi f e54 W
    have P2 : PR hi (dfT (nt g b) C D s t) C D := PR_cg P1 (fun a _ _ => f a (by omega) (by omega)) (fun a _ _ => dfT_n _ _ _ _ _ (by omega) (by omega))
    refine w_X9_drift_25 ⟨fun _ => d_calmSet P2 W (w_X9_drift_74 ?_), fun q => absurd (Int32.le_refl _) q⟩
    refine k hi (fun a ha h2 => by rw [f a (by omega) h2, f1 a (by omega)]) e54 (PA_cg A1 (f 25 (by omega) (by omega)) (f 26 (by omega) (by omega)) (by rw [dfT_61 _ _ _ _ _ (by decide)]) (by rw [dfT_n _ _ _ _ _ (by decide) (by decide)])) W
  · intro i hi ih hh f e54 W
    have ih : ∀ hi, fD h1 hi → hi 54 0 = nI (if 0 < C ∧ 0 < D then dr4 (dfS C D s i) else dfS C D s i) → WV (wv hi) (goF (dfC (dfT (nt g b) C D s i) C D (dfS C D s i)) C) C D → dh_J G mX9_drift 25 [some (.ref 0), some (.int (nI t)), none, some (.int (nI (i + 1)))] [] hi Q := fun hi a1 a2 a3 => ih hi a1 a2 (by rw [show dfT (nt g b) C D s (i + 1) 68 = goF (dfC (dfT (nt g b) C D s i) C D (dfS C D s i)) C from hr_i _ _ _]; exact a3)
    have P2 : PR hh (dfT (nt g b) C D s i) C D := PR_cg P1 (fun a _ _ => f a (by omega) (by omega)) (fun a _ _ => dfT_n _ _ _ _ _ (by omega) (by omega))
    have X2 : PX hh (dfT (nt g b) C D s i) := PX_cg X1 (f 3 (by omega) (by omega)) (fun k q1 q2 => dfT_61 _ _ _ _ _ (by omega))
    have hsl := dfS_lt (C := C) (D := D) hs31 i
    generalize dfT (nt g b) C D s i = gi at P2 X2 W ih
    generalize dfS C D s i = si at e54 hsl ih
    have next : ∀ h2, fD h1 h2 → h2 54 0 = nI (if 0 < C ∧ 0 < D then dr4 si else si) → WV (wv h2) (dfC gi C D si 68) C D → PR h2 gi C D → dh_J G mX9_drift 54 [some (.ref 0), some (.int (nI t)), none, some (.int (nI i))] [] h2 Q := by
      intro h2 f2 e2 W2 Q2
      have P3 : PR h2 (dfC gi C D si) C D := PR_cg Q2 (fun _ _ _ => rfl) (fun a _ _ => dfC_n _ _ _ _ (by omega) (by omega))
      refine w_X9_drift_54 (d_passHour P3 W2 (fun h3 f3 W3 => w_X9_drift_61 ?_))
      rw [nI_add]
      exact ih h3 (fun a ha h4 => by rw [f3 a ha, f2 a ha h4]) (by rw [f3 54 (by omega)]; exact e2) W3
    refine w_X9_drift_25 ⟨fun q => ?_, fun q => ?_⟩
    · rw [nI_leI (by omega) (by omega)] at q
      omega
    · rw [P2.1, P2.2.2.1]
      refine ⟨fun q2 => ?_, fun q2 => ⟨fun q3 => ?_, fun q3 => ?_⟩⟩
      · rw [← nI_0, nI_leI (by omega) (by decide)] at q2
        have e : ¬ (0 < C ∧ 0 < D) := by omega
        refine next hh f (by rw [if_neg e]; exact e54) ?_ P2
        unfold dfC
        rw [if_neg e]
        exact W
      · rw [← nI_0, nI_leI (by omega) (by decide)] at q3
        have e : ¬ (0 < C ∧ 0 < D) := by omega
        refine next hh f (by rw [if_neg e]; exact e54) ?_ P2
        unfold dfC
        rw [if_neg e]
        exact W
      · rw [← nI_0, nI_leI (by omega) (by decide)] at q2 q3
        have e : 0 < C ∧ 0 < D := by omega
        refine d_deed P2 X2 W e.1 e.2 e54 hsl (fun h2 f2 e2 W2 => next h2 (fun a ha h4 => by rw [f2 a ha h4, f a ha h4]) (by rw [if_pos e]; exact e2) ?_ (PR_cg P2 (fun a _ _ => f2 a (by omega) (by omega)) (fun _ _ _ => rfl)))
        unfold dfC
        rw [if_pos e, hr_i]
        exact W2
theorem sim_drift {x : Int32} (I : Inv h) : SM G mX9_drift mX10_drift [.int x] h := by
  obtain ⟨C, D, R⟩ := I
  have R' := R
  obtain ⟨r1, r2, r3, r4, ⟨t0, b, r5⟩, ⟨s, r6⟩, -⟩ := R'
  refine d_drift r2 r3 r5 r4 r6.1 r6.2.2 (fun q => ⟨_, rfl, ?_⟩) (fun t q1 q2 ex q3 h1 f e54 A W => SM_end (h := h) (fun a ha => f a (by omega) (by omega)) ?_)
  · exact c_drift r1 (mO_of r2) (mH_of r4) r5.2.2.2.2.1 r5.2.2.2.1 r6.2.1 r6.2.2 (fun _ => ⟨rfl, C, D, R⟩) (fun t a1 a2 a3 a4 => absurd a4 q)
  · refine c_drift (h := mix h1 h) (b := b) (s := s) (C := C) (D := D) r1 (mO_of r2) (mH_of r4) r5.2.2.2.2.1 r5.2.2.2.1 r6.2.1 r6.2.2 (fun q => absurd q3 q) (fun t' a1 a2 a3 a4 => ?_)
    have ett : t' = t := by
      rw [ex, nI_eq (by omega) (by omega)] at a3
      exact a3.symm
    subst ett
    rw [mix_nt, mix_dfT]
    have hs2 : nt h b 61 30 = nI s := by rw [nt_61 (by decide)]; exact r6.2.1
    have hH' : mH (nt h b) C D := fun c hc => by rw [nt_n (by decide) (by decide)]; exact mH_of r4 c hc
    refine ⟨rfl, C, D, RR_mix (RR_act R (fun a ha h2 h3 => f a h2 h3) (fun a h2 h3 h4 => ?_) (fun k h2 h3 => ?_) W ⟨_, _, A⟩ ⟨dfS C D s t', e54, (dfT_ok (mN_nt r1 b) (mO_nt (mO_of r2) b) hH' hs2 t').2.2.2, dfS_lt r6.2.2 t'⟩)⟩
    · rw [dfT_n _ _ _ _ _ (by omega) h3, nt_n (by omega) h4]
    · rw [dfT_61 _ _ _ _ _ h3, nt_61 h2]
end S3
