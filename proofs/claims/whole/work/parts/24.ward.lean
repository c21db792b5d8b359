/-! the ward's relation under single changes; holderOf, infects, canHand .. of the class -/
section WD
variable {G : dh_G} {h g : dh_H} {C D : Nat} {Q : Option Value → dh_H → Prop} {w n : Nat → Int32}
theorem laF_none {f : Nat → Bool} {n : Nat} (h : ∀ i, i < n → f i = false) : laF f n = -1 := by
  induction n with
  | zero => rfl
  | succ k ih => simp [laF, h k (by omega), ih (fun i hi => h i (by omega))]
theorem laF_one {f : Nat → Bool} {n c : Nat} (hc : c < n) (h1 : f c = true) (h : ∀ i, i < n → f i = true → i = c) : laF f n = nI c := by
  induction n with
  | zero => omega
  | succ k ih =>
    by_cases e : f k = true
    · rw [← h k (by omega) e]
      simp [laF, e]
    · have : c ≠ k := fun q => e (q ▸ h1)
      simp only [laF, e]
      exact ih (by omega) (fun i hi => h i (by omega))
theorem neg2_ne_nI {c : Nat} (h : c < 2 ^ 31) : ¬ nI c = -2 := by
  intro e
  have h1 := nI_toInt h
  rw [e] at h1
  have h2 : (-2 : Int32).toInt = -2 := by decide
  omega
/-- who holds d, by the class's place -/
theorem holder_pl (hC : C ≤ 6) (hW : WV w (g 68) C D) {d : Nat} (hd : d < D) : holder g C (nI d) = if w (1 + d) < 0 then -1 else w (1 + d) := by
  obtain ⟨-, w2, w3, -⟩ := hW
  rcases w2 d hd with e | e | ⟨c, hc, e⟩
  · rw [e, if_pos (by decide)]
    exact laF_none (fun i hi => by
      have := w3 d i hd hi
      rw [e] at this
      simp only [decide_eq_false_iff_not]
      exact fun q => m1_ne_nI (by omega) (this.mpr q))
  · rw [e, if_pos (by decide)]
    exact laF_none (fun i hi => by
      have := w3 d i hd hi
      rw [e] at this
      simp only [decide_eq_false_iff_not]
      exact fun q => neg2_ne_nI (by omega) (this.mpr q).symm)
  · rw [e, if_neg (nI_pos (by omega))]
    refine laF_one hc (by simp [(w3 d c hd hc).mp e]) (fun i hi q => ?_)
    have q : g 68 (1 + i) = nI d := by simpa using q
    have := (w3 d i hd hi).mpr q
    rw [e, nI_eq (by omega) (by omega)] at this
    exact this.symm
theorem d_holderOf {d : Nat} (hP : PR h g C D) (hW : WV (wv h) (g 68) C D) (hd : d < D) (k : Q (some (.int (holder g C (nI d)))) h) : dh_C G mX8_holderOf [.ref 19, .int (nI d)] h Q := by
  obtain ⟨eC, hC, eD, hD, -, -⟩ := hP
  rw [holder_pl hC hW hd, wv_pl h (by omega)] at k
  refine e_X8_holderOf (d_hasDummy eD hD ?_)
  rw [ixB_nI (by omega)]
  simp only [hd, decide_true]
  refine w_X8_holderOf_8 ⟨fun q => absurd q (by decide), fun _ => ?_⟩
  simp (disch := omega) only [nI_clamp]
  refine ⟨vp_in_nI (by omega) (by omega), fun q => ?_, fun q => ⟨vp_in_nI (by omega) (by omega), ?_⟩⟩
  · rw [if_pos q] at k
    exact k
  · rw [if_neg q] at k
    exact k
/-- where d lies: 1 on the floor, 2 in a mouth, 0 in the box -/
def kind (g : dh_H) (C d : Nat) : Int32 := if hasB (g 68 19) (nI d) then nI 1 else if holder g C (nI d) = -1 then nI 0 else nI 2
theorem floor_pl (hD : D ≤ 6) (hW : WV w n C D) {d : Nat} (hd : d < D) : hasB (n 19) (nI d) = decide (w (1 + d) = -2) := by
  rw [hW.2.2.2.2.1, has_st _ hD hd]
theorem d_kindOfPlace {d : Nat} (hP : PR h g C D) (hW : WV (wv h) (g 68) C D) (hd : d < D) (k : Q (some (.int (kind g C d))) h) : dh_C G mX8_kindOfPlace [.ref 19, .int (nI d)] h Q := by
  have hP' := hP
  obtain ⟨eC, hC, eD, hD, -, -⟩ := hP'
  refine e_X8_kindOfPlace (d_holderOf hP hW hd ?_)
  have hh := holder_pl hC hW hd
  have hf := floor_pl hD hW hd
  refine w_X8_kindOfPlace_5 ⟨fun q => ?_, fun q => ?_⟩
  · refine d_hasDummy eD hD ?_
    rw [ixB_nI (by omega)]
    simp only [hd, decide_true]
    refine w_X8_kindOfPlace_19 ⟨fun q => absurd q (by decide), fun _ => ?_⟩
    simp (disch := omega) only [nI_clamp]
    rw [wv_pl h (by omega)] at hf
    refine ⟨vp_in_nI (by omega) (by omega), fun q2 => ?_, fun q2 => ?_⟩
    · unfold kind at k
      rw [hf, if_neg (by simpa using q2), if_pos q] at k
      exact k
    · unfold kind at k
      rw [hf, if_pos (by simpa using q2)] at k
      exact k
  · unfold kind at k
    rw [if_neg, if_neg q] at k
    · exact k
    · rw [hf]
      intro e
      have e : wv h (1 + d) = -2 := by simpa using e
      rw [hh, e] at q
      exact q (by decide)
/-- whether child c, who has no cold, would get one by d -/
def inf (g : dh_H) (C d c : Nat) : Bool := !cold g c && !decide (g 68 (26 + d) &&& stF (cold g) C = 0)
theorem d_infects {d c : Nat} (hP : PR h g C D) (hW : WV (wv h) (g 68) C D) (hd : d < D) (hc : c < C) (k : Q (some (.int (bI (inf g C d c)))) h) : dh_C G mX8_infects [.ref 19, .int (nI d), .int (nI c)] h Q := by
  have hP' := hP
  obtain ⟨eC, hC, eD, hD, -, -⟩ := hP'
  refine e_X8_infects (d_sickSet hP hW ?_)
  refine w_X8_infects_4 (d_isIn ?_)
  rw [isIn_st _ hC hc]
  refine w_X8_infects_10 ⟨fun q => ?_, fun q => ?_⟩
  · rw [bI_n0] at q
    rw [show inf g C d c = false by simp [inf, q]] at k
    exact k
  · rw [bI_0] at q
    refine d_hasDummy eD hD ?_
    rw [ixB_nI (by omega)]
    simp only [hd, decide_true]
    refine w_X8_infects_21 ⟨fun q => absurd q (by decide), fun _ => ?_⟩
    have e := (hW.2.2.2.2.2.1 d hd).2
    rw [wv_ge h (by omega)] at e
    simp (disch := omega) only [nI_clamp, e]
    refine ⟨vp_in_nI (by omega) (by omega), fun q2 => ?_, fun q2 => ?_⟩
    · rw [show inf g C d c = false by simp [inf, q, q2]] at k
      exact k
    · rw [show inf g C d c = true by simp [inf, q, q2]] at k
      exact k
def canB (g : dh_H) (C d c : Nat) : Bool := decide (holder g C (nI d) = -1) && decide (g 68 (1 + c) = -1)
theorem d_canHand {d c : Nat} (hP : PR h g C D) (hW : WV (wv h) (g 68) C D) (hd : d < D) (hc : c < C) (k : Q (some (.int (bI (canB g C d c)))) h) : dh_C G mX8_canHand [.ref 19, .int (nI d), .int (nI c)] h Q := by
  have hP' := hP
  obtain ⟨eC, hC, eD, hD, -, -⟩ := hP'
  refine e_X8_canHand (d_hasDummy eD hD ?_)
  rw [ixB_nI (by omega)]
  simp only [hd, decide_true]
  refine w_X8_canHand_8 ⟨fun q => absurd q (by decide), fun _ => d_holderOf hP hW hd ?_⟩
  refine w_X8_canHand_16 ⟨fun q => ?_, fun q => d_dummyOf hP hW hc ?_⟩
  · rw [show canB g C d c = false by simp [canB, q]] at k
    exact k
  · refine w_X8_canHand_25 ⟨fun q2 => ?_, fun q2 => ?_⟩
    · rw [show canB g C d c = false by simp [canB, q2]] at k
      exact k
    · rw [show canB g C d c = true by simp [canB, q, q2]] at k
      exact k
theorem c_canGive {d c : Nat} (hN : mN h C D) (hc : c < C) (k : Q (some (.int (bI (canB h C d c)))) h) : dh_C G mX10_canGive [.ref 61, .int (nI d), .int (nI c)] h Q := by
  have hC := hN.2.1
  refine e_X10_canGive (c_holderOf hN ?_)
  refine w_X10_canGive_5 ⟨fun q => ?_, fun q => ?_⟩
  · rw [show canB h C d c = false by simp [canB, q]] at k
    exact k
  · simp (disch := omega) only [nI_add, nI_clamp]
    refine ⟨vp_in_nI (by omega) (by omega), fun q2 => ?_, fun q2 => ?_⟩
    · rw [show canB h C d c = false by simp [canB, q2]] at k
      exact k
    · rw [show canB h C d c = true by simp [canB, q, q2]] at k
      exact k
theorem d_calmOf {c : Nat} {x : Int32} (hP : PR h g C D) (hc : c < C) (k : Q (some (.int (bI (ixB x D && tk g c x.toNatClampNeg)))) h) : dh_C G mX8_calmOf [.ref 19, .int (nI c), .int x] h Q := by
  refine e_X8_calmOf (d_takes hP hc ?_)
  refine w_X8_calmOf_9 ⟨fun q => ?_, fun q => ?_⟩
  · rw [bI_0] at q
    rw [q] at k
    exact k
  · rw [bI_n0] at q
    rw [q] at k
    exact k
-- single changes
theorem un {f : Nat → Int32} {k j : Nat} {x : Int32} (e : j ≠ k) : upd f k x j = f j := pk_un e
theorem us {f : Nat → Int32} {k : Nat} {x : Int32} : upd f k x k = x := pk_us
theorem WV_cold (hC : C ≤ 6) (hD : D ≤ 6) (hW : WV w n C D) {c : Nat} (hc : c < C) {x : Int32} (hx : ¬ x < 0) : WV (upd w (19 + c) x) (upd n (7 + c) x) C D := by
  obtain ⟨w1, w2, w3, w4, w5, w6, w7⟩ := hW
  refine ⟨?_, fun d hd => ?_, fun d c' hd hc' => ?_, fun c' hc' => ?_, ?_, fun d hd => ?_, fun c' hc' => ?_⟩
  · rw [un (by omega), un (by omega)]; exact w1
  · rw [un (by omega)]; exact w2 d hd
  · rw [un (by omega), un (by omega)]; exact w3 d c' hd hc'
  · rw [un (by omega)]; exact w4 c' hc'
  · rw [un (by omega), w5]; exact stF_congr (fun i hi => by rw [un (by omega)])
  · rw [un (by omega), un (by omega), un (by omega), un (by omega)]; exact w6 d hd
  · by_cases e : c' = c
    · subst e
      rw [us, us, un (by omega), un (by omega)]
      exact ⟨rfl, (w7 c' hc').2.1, hx⟩
    · rw [un (by omega), un (by omega), un (by omega), un (by omega)]
      exact w7 c' hc'
theorem WV_howl (hC : C ≤ 6) (hD : D ≤ 6) (hW : WV w n C D) {c : Nat} (hc : c < C) {x : Int32} : WV (upd w (25 + c) x) (upd n (13 + c) x) C D := by
  obtain ⟨w1, w2, w3, w4, w5, w6, w7⟩ := hW
  refine ⟨?_, fun d hd => ?_, fun d c' hd hc' => ?_, fun c' hc' => ?_, ?_, fun d hd => ?_, fun c' hc' => ?_⟩
  · rw [un (by omega), un (by omega)]; exact w1
  · rw [un (by omega)]; exact w2 d hd
  · rw [un (by omega), un (by omega)]; exact w3 d c' hd hc'
  · rw [un (by omega)]; exact w4 c' hc'
  · rw [un (by omega), w5]; exact stF_congr (fun i hi => by rw [un (by omega)])
  · rw [un (by omega), un (by omega), un (by omega), un (by omega)]; exact w6 d hd
  · by_cases e : c' = c
    · subst e
      rw [us, us, un (by omega), un (by omega)]
      exact ⟨(w7 c' hc').1, rfl, (w7 c' hc').2.2⟩
    · rw [un (by omega), un (by omega), un (by omega), un (by omega)]
      exact w7 c' hc'
theorem WV_hour (hC : C ≤ 6) (hD : D ≤ 6) (hW : WV w n C D) {x : Int32} : WV (upd w 0 x) (upd n 0 x) C D := by
  obtain ⟨w1, w2, w3, w4, w5, w6, w7⟩ := hW
  refine ⟨?_, fun d hd => ?_, fun d c' hd hc' => ?_, fun c' hc' => ?_, ?_, fun d hd => ?_, fun c' hc' => ?_⟩
  · rw [us, us]
  · rw [un (by omega)]; exact w2 d hd
  · rw [un (by omega), un (by omega)]; exact w3 d c' hd hc'
  · rw [un (by omega)]; exact w4 c' hc'
  · rw [un (by omega), w5]; exact stF_congr (fun i hi => by rw [un (by omega)])
  · rw [un (by omega), un (by omega), un (by omega), un (by omega)]; exact w6 d hd
  · rw [un (by omega), un (by omega), un (by omega), un (by omega)]; exact w7 c' hc'
theorem WV_germ (hC : C ≤ 6) (hD : D ≤ 6) (hW : WV w n C D) {d : Nat} (hd : d < D) {x : Int32} : WV (upd w (13 + d) x) (upd n (26 + d) x) C D := by
  obtain ⟨w1, w2, w3, w4, w5, w6, w7⟩ := hW
  refine ⟨?_, fun d' hd' => ?_, fun d' c' hd' hc' => ?_, fun c' hc' => ?_, ?_, fun d' hd' => ?_, fun c' hc' => ?_⟩
  · rw [un (by omega), un (by omega)]; exact w1
  · rw [un (by omega)]; exact w2 d' hd'
  · rw [un (by omega), un (by omega)]; exact w3 d' c' hd' hc'
  · rw [un (by omega)]; exact w4 c' hc'
  · rw [un (by omega), w5]; exact stF_congr (fun i hi => by rw [un (by omega)])
  · by_cases e : d' = d
    · subst e
      rw [us, us, un (by omega), un (by omega)]
      exact ⟨(w6 d' hd').1, rfl⟩
    · rw [un (by omega), un (by omega), un (by omega), un (by omega)]; exact w6 d' hd'
  · rw [un (by omega), un (by omega), un (by omega), un (by omega)]; exact w7 c' hc'
theorem WV_boil (hC : C ≤ 6) (hD : D ≤ 6) (hW : WV w n C D) {d : Nat} (hd : d < D) {x : Int32} : WV (upd w (7 + d) x) (upd n (20 + d) x) C D := by
  obtain ⟨w1, w2, w3, w4, w5, w6, w7⟩ := hW
  refine ⟨?_, fun d' hd' => ?_, fun d' c' hd' hc' => ?_, fun c' hc' => ?_, ?_, fun d' hd' => ?_, fun c' hc' => ?_⟩
  · rw [un (by omega), un (by omega)]; exact w1
  · rw [un (by omega)]; exact w2 d' hd'
  · rw [un (by omega), un (by omega)]; exact w3 d' c' hd' hc'
  · rw [un (by omega)]; exact w4 c' hc'
  · rw [un (by omega), w5]; exact stF_congr (fun i hi => by rw [un (by omega)])
  · by_cases e : d' = d
    · subst e
      rw [us, us, un (by omega), un (by omega)]
      exact ⟨rfl, (w6 d' hd').2⟩
    · rw [un (by omega), un (by omega), un (by omega), un (by omega)]; exact w6 d' hd'
  · rw [un (by omega), un (by omega), un (by omega), un (by omega)]; exact w7 c' hc'
theorem WV_give (hC : C ≤ 6) (hD : D ≤ 6) (hW : WV w n C D) {c d : Nat} (hc : c < C) (hd : d < D) (h1 : n (1 + c) = -1) (h2 : ∀ c', c' < C → ¬ n (1 + c') = nI d) : WV (upd w (1 + d) (nI c)) (upd (upd n (1 + c) (nI d)) 19 (n 19 &&& ((nI 1 <<< (nI d &&& 31)) ^^^ (-1)))) C D := by
  obtain ⟨w1, w2, w3, w4, w5, w6, w7⟩ := hW
  refine ⟨?_, fun d' hd' => ?_, fun d' c' hd' hc' => ?_, fun c' hc' => ?_, ?_, fun d' hd' => ?_, fun c' hc' => ?_⟩
  · rw [un (by omega), un (by omega), un (by omega)]; exact w1
  · by_cases e : d' = d
    · subst e
      rw [us]
      exact Or.inr (Or.inr ⟨c, hc, rfl⟩)
    · rw [un (by omega)]; exact w2 d' hd'
  · rw [un (f := upd n (1 + c) (nI d)) (by omega)]
    by_cases e : d' = d
    · subst e
      rw [us]
      by_cases e2 : c' = c
      · subst e2
        rw [us]
        exact ⟨fun _ => rfl, fun _ => rfl⟩
      · rw [un (by omega), nI_eq (by omega) (by omega)]
        exact ⟨fun q => absurd q.symm e2, fun q => absurd q (h2 c' hc')⟩
    · rw [un (by omega)]
      by_cases e2 : c' = c
      · subst e2
        rw [us, nI_eq (by omega) (by omega), w3 d' c' hd' hc', h1]
        exact ⟨fun q => absurd q (m1_ne_nI (by omega)), fun q => absurd q.symm e⟩
      · rw [un (by omega)]
        exact w3 d' c' hd' hc'
  · rw [un (by omega)]
    by_cases e2 : c' = c
    · subst e2
      rw [us]
      exact Or.inr ⟨d, hd, rfl⟩
    · rw [un (by omega)]; exact w4 c' hc'
  · rw [us, w5, clr_st _ hD hd]
    refine stF_congr (fun i hi => ?_)
    by_cases e : i = d
    · subst e
      rw [us]
      simp [neg2_ne_nI (show c < 2 ^ 31 by omega)]
    · rw [un (by omega)]
      simp [e]
  · rw [un (by omega), un (by omega), un (by omega), un (by omega), un (by omega), un (by omega)]; exact w6 d' hd'
  · rw [un (by omega), un (by omega), un (by omega), un (by omega), un (by omega), un (by omega)]; exact w7 c' hc'
theorem WV_drop (hC : C ≤ 6) (hD : D ≤ 6) (hW : WV w n C D) {c d : Nat} (hc : c < C) (hd : d < D) (h1 : w (1 + d) = nI c) : WV (upd w (1 + d) (-2)) (upd (upd n (1 + c) (-1)) 19 (n 19 ||| (nI 1 <<< (nI d &&& 31)))) C D := by
  obtain ⟨w1, w2, w3, w4, w5, w6, w7⟩ := hW
  refine ⟨?_, fun d' hd' => ?_, fun d' c' hd' hc' => ?_, fun c' hc' => ?_, ?_, fun d' hd' => ?_, fun c' hc' => ?_⟩
  · rw [un (by omega), un (by omega), un (by omega)]; exact w1
  · by_cases e : d' = d
    · subst e
      rw [us]
      exact Or.inr (Or.inl rfl)
    · rw [un (by omega)]; exact w2 d' hd'
  · rw [un (f := upd n (1 + c) (-1)) (by omega)]
    by_cases e : d' = d
    · subst e
      rw [us]
      by_cases e2 : c' = c
      · subst e2
        rw [us]
        exact ⟨fun q => absurd q.symm (neg2_ne_nI (by omega)), fun q => absurd q (m1_ne_nI (by omega))⟩
      · rw [un (by omega), ← w3 d' c' hd' hc', h1, nI_eq (by omega) (by omega)]
        exact ⟨fun q => absurd q.symm (neg2_ne_nI (by omega)), fun q => absurd q.symm e2⟩
    · rw [un (by omega)]
      by_cases e2 : c' = c
      · subst e2
        rw [us, w3 d' c' hd' hc', (w3 d c' hd hc').mp h1, nI_eq (by omega) (by omega)]
        exact ⟨fun q => absurd q.symm e, fun q => absurd q (m1_ne_nI (by omega))⟩
      · rw [un (by omega)]
        exact w3 d' c' hd' hc'
  · rw [un (by omega)]
    by_cases e2 : c' = c
    · subst e2
      rw [us]
      exact Or.inl rfl
    · rw [un (by omega)]; exact w4 c' hc'
  · rw [us, w5, set_st _ hD hd]
    refine stF_congr (fun i hi => ?_)
    by_cases e : i = d
    · subst e
      rw [us]
      simp
    · rw [un (by omega)]
      simp [e]
  · rw [un (by omega), un (by omega), un (by omega), un (by omega), un (by omega), un (by omega)]; exact w6 d' hd'
  · rw [un (by omega), un (by omega), un (by omega), un (by omega), un (by omega), un (by omega)]; exact w7 c' hc'
theorem WV_pick (hC : C ≤ 6) (hD : D ≤ 6) (hW : WV w n C D) {d : Nat} (hd : d < D) (h1 : w (1 + d) = -2) : WV (upd w (1 + d) (-1)) (upd n 19 (n 19 &&& ((nI 1 <<< (nI d &&& 31)) ^^^ (-1)))) C D := by
  obtain ⟨w1, w2, w3, w4, w5, w6, w7⟩ := hW
  refine ⟨?_, fun d' hd' => ?_, fun d' c' hd' hc' => ?_, fun c' hc' => ?_, ?_, fun d' hd' => ?_, fun c' hc' => ?_⟩
  · rw [un (by omega), un (by omega)]; exact w1
  · by_cases e : d' = d
    · subst e
      rw [us]
      exact Or.inl rfl
    · rw [un (by omega)]; exact w2 d' hd'
  · rw [un (f := n) (by omega)]
    by_cases e : d' = d
    · subst e
      rw [us, ← w3 d' c' hd' hc', h1]
      exact ⟨fun q => absurd q (m1_ne_nI (by omega)), fun q => absurd q.symm (neg2_ne_nI (by omega))⟩
    · rw [un (by omega)]
      exact w3 d' c' hd' hc'
  · rw [un (by omega)]; exact w4 c' hc'
  · rw [us, w5, clr_st _ hD hd]
    refine stF_congr (fun i hi => ?_)
    by_cases e : i = d
    · subst e
      rw [us]
      simp
    · rw [un (by omega)]
      simp [e]
  · rw [un (by omega), un (by omega), un (by omega), un (by omega)]; exact w6 d' hd'
  · rw [un (by omega), un (by omega), un (by omega), un (by omega)]; exact w7 c' hc'
/-- not on the floor: taking it off changes nothing -/
theorem clr_off (hD : D ≤ 6) (hW : WV w n C D) {d : Nat} (hd : d < D) (h1 : ¬ w (1 + d) = -2) : n 19 &&& ((nI 1 <<< (nI d &&& 31)) ^^^ (-1)) = n 19 := by
  rw [hW.2.2.2.2.1, clr_st _ hD hd]
  refine stF_congr (fun i hi => ?_)
  by_cases e : i = d
  · subst e
    simp [h1]
  · simp [e]
-- the ward's row under the class's writes
theorem wv_s19 (h : dh_H) (x : Int32) : wv (dh_s h 19 1 x) = upd (wv h) 0 x := by
  funext k
  by_cases e : k = 0
  · subst e
    rw [us]
    exact dh_s_eq h 19 1 x
  · rw [un e]
    unfold wv
    rw [if_neg e, if_neg e, dh_s_n (by decide), dh_s_n (by decide), dh_s_n (by decide), dh_s_n (by decide), dh_s_n (by decide)]
theorem wv_s20 (h : dh_H) {d : Nat} (hd : d < 6) (x : Int32) : wv (dh_s h 20 d x) = upd (wv h) (1 + d) x := by
  funext k
  by_cases e : k = 1 + d
  · subst e
    rw [us, wv_pl _ hd, dh_s_eq]
  · rw [un e]
    unfold wv
    rw [dh_s_n (j := 19) (by decide), dh_s_n (j := 21) (by decide), dh_s_n (j := 22) (by decide), dh_s_n (j := 23) (by decide), dh_s_n (j := 24) (by decide)]
    by_cases q : k = 0
    · rw [if_pos q, if_pos q]
    · rw [if_neg q, if_neg q]
      by_cases q2 : k < 7
      · rw [if_pos q2, if_pos q2, dh_s_nk (by omega)]
      · rw [if_neg q2, if_neg q2]
theorem wv_s21 (h : dh_H) {d : Nat} (hd : d < 6) (x : Int32) : wv (dh_s h 21 d x) = upd (wv h) (7 + d) x := by
  funext k
  by_cases e : k = 7 + d
  · subst e
    rw [us, wv_bo _ hd, dh_s_eq]
  · rw [un e]
    unfold wv
    rw [dh_s_n (j := 19) (by decide), dh_s_n (j := 20) (by decide), dh_s_n (j := 22) (by decide), dh_s_n (j := 23) (by decide), dh_s_n (j := 24) (by decide)]
    by_cases q : k = 0
    · rw [if_pos q, if_pos q]
    · rw [if_neg q, if_neg q]
      by_cases q2 : k < 7
      · rw [if_pos q2, if_pos q2]
      · rw [if_neg q2, if_neg q2]
        by_cases q3 : k < 13
        · rw [if_pos q3, if_pos q3, dh_s_nk (by omega)]
        · rw [if_neg q3, if_neg q3]
theorem wv_s22 (h : dh_H) {d : Nat} (hd : d < 6) (x : Int32) : wv (dh_s h 22 d x) = upd (wv h) (13 + d) x := by
  funext k
  by_cases e : k = 13 + d
  · subst e
    rw [us, wv_ge _ hd, dh_s_eq]
  · rw [un e]
    unfold wv
    rw [dh_s_n (j := 19) (by decide), dh_s_n (j := 20) (by decide), dh_s_n (j := 21) (by decide), dh_s_n (j := 23) (by decide), dh_s_n (j := 24) (by decide)]
    by_cases q : k = 0
    · rw [if_pos q, if_pos q]
    · rw [if_neg q, if_neg q]
      by_cases q2 : k < 7
      · rw [if_pos q2, if_pos q2]
      · rw [if_neg q2, if_neg q2]
        by_cases q3 : k < 13
        · rw [if_pos q3, if_pos q3]
        · rw [if_neg q3, if_neg q3]
          by_cases q4 : k < 19
          · rw [if_pos q4, if_pos q4, dh_s_nk (by omega)]
          · rw [if_neg q4, if_neg q4]
theorem wv_s23 (h : dh_H) {d : Nat} (hd : d < 6) (x : Int32) : wv (dh_s h 23 d x) = upd (wv h) (19 + d) x := by
  funext k
  by_cases e : k = 19 + d
  · subst e
    rw [us, wv_co _ hd, dh_s_eq]
  · rw [un e]
    unfold wv
    rw [dh_s_n (j := 19) (by decide), dh_s_n (j := 20) (by decide), dh_s_n (j := 21) (by decide), dh_s_n (j := 22) (by decide), dh_s_n (j := 24) (by decide)]
    by_cases q : k = 0
    · rw [if_pos q, if_pos q]
    · rw [if_neg q, if_neg q]
      by_cases q2 : k < 7
      · rw [if_pos q2, if_pos q2]
      · rw [if_neg q2, if_neg q2]
        by_cases q3 : k < 13
        · rw [if_pos q3, if_pos q3]
        · rw [if_neg q3, if_neg q3]
          by_cases q4 : k < 19
          · rw [if_pos q4, if_pos q4]
          · rw [if_neg q4, if_neg q4]
            by_cases q5 : k < 25
            · rw [if_pos q5, if_pos q5, dh_s_nk (by omega)]
            · rw [if_neg q5, if_neg q5]
theorem wv_s24 (h : dh_H) (d : Nat) (x : Int32) : wv (dh_s h 24 d x) = upd (wv h) (25 + d) x := by
  funext k
  by_cases e : k = 25 + d
  · subst e
    rw [us, wv_ho, dh_s_eq]
  · rw [un e]
    unfold wv
    rw [dh_s_n (by decide), dh_s_n (by decide), dh_s_n (by decide), dh_s_n (by decide), dh_s_n (by decide)]
    by_cases q : k = 0
    · rw [if_pos q, if_pos q]
    · rw [if_neg q, if_neg q]
      by_cases q2 : k < 7
      · rw [if_pos q2, if_pos q2]
      · rw [if_neg q2, if_neg q2]
        by_cases q3 : k < 13
        · rw [if_pos q3, if_pos q3]
        · rw [if_neg q3, if_neg q3]
          by_cases q4 : k < 19
          · rw [if_pos q4, if_pos q4]
          · rw [if_neg q4, if_neg q4]
            by_cases q5 : k < 25
            · rw [if_pos q5, if_pos q5]
            · rw [if_neg q5, if_neg q5, dh_s_nk (by omega)]
end WD
