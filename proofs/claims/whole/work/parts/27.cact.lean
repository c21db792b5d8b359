/-! the class's ward in action, beside the model's row -/
section CA
variable {G : dh_G} {h g : dh_H} {C D : Nat} {Q : Option Value → dh_H → Prop}
/-- nothing but the ward's own cells has changed -/
def fW (h h1 : dh_H) : Prop := ∀ a, ¬ (19 ≤ a ∧ a ≤ 24) → h1 a = h a
theorem fW_rf (h : dh_H) : fW h h := fun _ _ => rfl
theorem fW_s {h h1 : dh_H} (f : fW h h1) {i k : Nat} {x : Int32} (hi : 19 ≤ i ∧ i ≤ 24) : fW h (dh_s h1 i k x) := fun a ha => by
  rw [dh_s_n (fun e => ha (by rw [e]; exact hi))]
  exact f a ha
theorem fW_tr {h h1 h2 : dh_H} (f : fW h h1) (f2 : fW h1 h2) : fW h h2 := fun a ha => (f2 a ha).trans (f a ha)
theorem PR_fW {h h1 : dh_H} (hP : PR h g C D) (f : fW h h1) : PR h1 g C D := by
  unfold PR at hP ⊢
  rw [f 3 (by omega), f 4 (by omega), f 5 (by omega), f 6 (by omega), f 7 (by omega), f 8 (by omega), f 9 (by omega), f 10 (by omega)]
  exact hP
theorem upd_same (n : Nat → Int32) (k : Nat) : upd n k (n k) = n := by
  funext j
  by_cases e : j = k
  · subst e; rw [us]
  · rw [un e]
theorem laF_m1 {f : Nat → Bool} {n : Nat} (hn : n < 2 ^ 31) (h : laF f n = -1) : ∀ i, i < n → f i = false := by
  induction n with
  | zero => intro i hi; omega
  | succ k ih =>
    intro i hi
    by_cases e : f k = true
    · simp only [laF, e, if_true] at h
      exact absurd h (nI_ne_m1 (by omega))
    · have e : f k = false := by simpa using e
      have h2 : laF f k = -1 := by simpa [laF, e] using h
      by_cases q : i = k
      · rw [q]; exact e
      · exact ih (by omega) h2 i (by omega)
theorem canB_no {d c : Nat} (hC : C ≤ 6) (q : canB g C d c = true) : g 68 (1 + c) = -1 ∧ ∀ c', c' < C → ¬ g 68 (1 + c') = nI d := by
  simp only [canB, Bool.and_eq_true, decide_eq_true_eq] at q
  refine ⟨q.2, fun c' hc' e => ?_⟩
  have := laF_m1 (show C < 2 ^ 31 by omega) q.1 c' hc'
  simp [e] at this
theorem cold_0 {n : Nat → Int32} {c : Nat} (hx : ¬ n (7 + c) < 0) : n (7 + c) ≤ 0 ↔ n (7 + c) = 0 := by
  rw [Int32.lt_iff_toInt_lt] at hx
  rw [Int32.le_iff_toInt_le, ← Int32.toInt_inj]
  have : (0 : Int32).toInt = 0 := by decide
  omega
/-- how long a cold lasts -/
def PL (h g : dh_H) : Prop := h 3 1 = g 61 17 ∧ ¬ g 61 17 < 0
theorem d_hand {d c : Nat} (hP : PR h g C D) (hL : PL h g) (hW : WV (wv h) (g 68) C D) (hd : d < D) (hc : c < C) (hcan : canB g C d c = true) (k : ∀ h1, fW h h1 → WV (wv h1) (gvF g C d c) C D → Q none h1) : dh_C G mX8_hand [.ref 19, .int (nI d), .int (nI c)] h Q := by
  have hP' := hP
  obtain ⟨eC, hC, eD, hD, -, -⟩ := hP'
  obtain ⟨n1, n2⟩ := canB_no hC hcan
  refine e_X8_hand (d_hasDummy eD hD ?_)
  rw [ixB_nI (by omega)]
  simp only [hd, decide_true]
  refine w_X8_hand_8 ⟨fun q => absurd q (by decide), fun _ => d_hasChild eC hC ?_⟩
  rw [ixB_nI (by omega)]
  simp only [hc, decide_true]
  refine w_X8_hand_19 ⟨fun _ => ?_, fun q => absurd q (by decide)⟩
  simp (disch := omega) only [nI_clamp]
  refine ⟨vp_in_nI (by omega) (by omega), ?_⟩
  have f1 : fW h (dh_s h 20 d (nI c)) := fW_s (fW_rf h) ⟨by decide, by decide⟩
  have hP1 : PR (dh_s h 20 d (nI c)) g C D := PR_fW hP f1
  have W1 : WV (wv (dh_s h 20 d (nI c))) (gv1 (g 68) d c) C D := by
    rw [wv_s20 h (by omega)]
    exact WV_give hC hD hW hc hd n1 n2
  refine d_takes hP1 hc ?_
  rw [ixB_nI (by omega), nI_clamp (by omega)]
  simp only [hd, decide_true, Bool.true_and]
  refine w_X8_hand_39 ⟨fun q => ?_, fun q => ?_⟩
  · rw [bI_n0] at q
    have hP2 : PR (dh_s h 20 d (nI c)) (hr g 68 (gv1 (g 68) d c)) C D := hP1
    have W2 : WV (wv (dh_s h 20 d (nI c))) ((hr g 68 (gv1 (g 68) d c)) 68) C D := by rw [hr_i]; exact W1
    have hx := (hW.2.2.2.2.2.2 c hc).2.2
    have ecold : ∀ i, i < C → cold (hr g 68 (gv1 (g 68) d c)) i = cold g i := fun i hi => by unfold cold; rw [hr_i, gv1_n (by omega) (by omega)]
    refine d_infects hP2 W2 hd hc ?_
    have einf : inf (hr g 68 (gv1 (g 68) d c)) C d c = inf g C d c := by
      unfold inf
      rw [ecold c hc, stF_congr ecold, hr_i, gv1_n (by omega) (by omega)]
    rw [einf]
    unfold gvF at k
    rw [q, if_pos rfl] at k
    have eg : dh_s h 20 d (nI c) 22 d = g 68 (26 + d) := by
      have := (hW.2.2.2.2.2.1 d hd).2
      rw [wv_ge h (by omega)] at this
      exact this
    refine w_X8_hand_49 ?_
    simp (disch := omega) only [nI_clamp]
    refine ⟨fun q2 => ⟨vp_in_nI (by omega) (by omega), vp_in_nI (by omega) (by omega), ?_⟩, fun q2 => ⟨vp_in_nI (by omega) (by omega), vp_in_nI (by omega) (by omega), vp_in_nI (by omega) (by omega), ?_⟩⟩
    · rw [bI_0] at q2
      have q3 : (g 68 (26 + d) &&& stF (cold g) C = 0) ∨ ¬ g 68 (7 + c) = 0 := by
        by_cases z : g 68 (26 + d) &&& stF (cold g) C = 0
        · exact Or.inl z
        · right
          simp only [inf, z, decide_false, Bool.not_false, Bool.and_true] at q2
          intro e
          have : cold g c = false := by unfold cold; simp [e]
          rw [this] at q2
          exact absurd q2 (by decide)
      rw [if_pos q3] at k
      refine k _ (fW_s f1 ⟨by decide, by decide⟩) ?_
      rw [eg, wv_s22 _ (by omega)]
      exact WV_germ hC hD W1 hd
    · rw [bI_n0] at q2
      have q3 : ¬ ((g 68 (26 + d) &&& stF (cold g) C = 0) ∨ ¬ g 68 (7 + c) = 0) := by
        simp only [inf, Bool.and_eq_true, Bool.not_eq_true', decide_eq_false_iff_not] at q2
        intro z
        rcases z with z | z
        · exact q2.2 z
        · have q4 := q2.1
          unfold cold at q4
          simp only [Bool.not_eq_false', decide_eq_true_eq] at q4
          exact z ((cold_0 hx).mp q4)
      rw [if_neg q3] at k
      refine k _ (fW_s (fW_s f1 ⟨by decide, by decide⟩) ⟨by decide, by decide⟩) ?_
      rw [eg, wv_s22 _ (by omega), wv_s23 _ (by omega)]
      rw [show dh_s h 20 d (nI c) 3 1 = h 3 1 from rfl, hL.1]
      exact WV_germ hC hD (WV_cold hC hD W1 hc hL.2) hd
  · rw [bI_0] at q
    unfold gvF at k
    rw [q, if_neg (by decide)] at k
    exact k _ f1 W1
theorem d_passHour (hP : PR h g C D) (hW : WV (wv h) (g 68) C D) (k : ∀ h1, fW h h1 → WV (wv h1) (goF g C) C D → Q none h1) : dh_C G mX8_passHour [.ref 19] h Q := by
  have hP' := hP
  obtain ⟨eC, hC, eD, hD, -, -⟩ := hP'
  refine e_X8_passHour (d_calmSet hP hW (w_X8_passHour_4 ?_))
  unfold goF at k
  have hcal : ∀ i, i < C → hasB (stF (calm g) C) (nI i) = calm g i ∧ isInB (stF (calm g) C) (nI i) = calm g i := fun i hi => ⟨has_st _ hC hi, isIn_st _ hC hi⟩
  generalize stF (calm g) C = s at hcal k ⊢
  refine dh_up (P := fun i => ∀ hi, fW h hi → WV (wv hi) (goR s (g 68) i) C D → dh_J G mX8_passHour 7 [some (.ref 19), some (.int s), some (.int (nI i))] [] hi Q) C ?_ ?_ 0 (by omega) h (fW_rf h) hW
  · intro hi f W
    refine w_X8_passHour_7 ⟨fun _ => ?_, fun q => absurd (Int32.le_refl _) (by rw [f 3 (by omega), eC] at q; exact q)⟩
    refine k _ (fW_s f ⟨by decide, by decide⟩) ?_
    rw [wv_s19, ← wv_0 hi, W.1]
    exact WV_hour hC hD W
  · intro i hi ih hh f W
    refine w_X8_passHour_7 ⟨fun q => ?_, fun q => d_isIn ?_⟩
    · rw [f 3 (by omega), eC, nI_leI (by omega) (by omega)] at q
      omega
    rw [(hcal i hi).2]
    have ec := (W.2.2.2.2.2.2 i hi).1
    have eh := (W.2.2.2.2.2.2 i hi).2.1
    have ex := (W.2.2.2.2.2.2 i hi).2.2
    rw [wv_co hh (by omega)] at ec
    rw [wv_ho hh] at eh
    have step : goR s (g 68) (i + 1) = upd (upd (goR s (g 68) i) (13 + i) (goR s (g 68) i (13 + i) + (if calm g i then nI 0 else nI 1))) (7 + i) (goR s (g 68) i (7 + i) - (if goR s (g 68) i (7 + i) ≤ 0 then nI 0 else nI 1)) := by
      show upd (upd (goR s (g 68) i) (13 + i) (goR s (g 68) i (13 + i) + (if hasB s (nI i) then nI 0 else nI 1))) (7 + i) (upd (goR s (g 68) i) (13 + i) (goR s (g 68) i (13 + i) + (if hasB s (nI i) then nI 0 else nI 1)) (7 + i) - (if upd (goR s (g 68) i) (13 + i) (goR s (g 68) i (13 + i) + (if hasB s (nI i) then nI 0 else nI 1)) (7 + i) ≤ 0 then nI 0 else nI 1)) = _
      rw [(hcal i hi).1, un (show 7 + i ≠ 13 + i by omega)]
    rw [step] at ih
    generalize goR s (g 68) i = m at ih W ec eh ex ⊢
    have exm : ∀ x : Int32, ¬ x < 0 → ¬ x ≤ 0 → ¬ x - nI 1 < 0 := by
      intro x h1 h2
      obtain ⟨j, hj, rfl⟩ := nI_of h1
      have hj0 : 0 < j := by
        rw [← nI_0, nI_leI hj (by decide)] at h2
        omega
      rw [pk_sub (by omega)]
      exact nI_pos (by omega)
    refine w_X8_passHour_23 ?_
    simp (disch := omega) only [nI_add, nI_clamp, ec, eh]
    refine ⟨fun q => ⟨vp_in_nI (by omega) (by omega), fun q2 => ?_, fun q2 => ⟨vp_in_nI (by omega) (by omega), vp_in_nI (by omega) (by omega), ?_⟩⟩, fun q => ⟨vp_in_nI (by omega) (by omega), vp_in_nI (by omega) (by omega), vp_in_nI (by omega) (by omega), fun q2 => ?_, fun q2 => ⟨vp_in_nI (by omega) (by omega), vp_in_nI (by omega) (by omega), ?_⟩⟩⟩
    · rw [bI_n0] at q
      refine ih hh f ?_
      rw [q, if_pos rfl, if_pos q2, show nI 0 = 0 from nI_0, Int32.add_zero, Int32.sub_zero, upd_same, upd_same]
      exact W
    · rw [bI_n0] at q
      refine ih _ (fW_s f ⟨by decide, by decide⟩) ?_
      rw [q, if_pos rfl, if_neg q2, show nI 0 = 0 from nI_0, Int32.add_zero, upd_same, wv_s23 _ (by omega)]
      exact WV_cold hC hD W hi (exm _ ex q2)
    · rw [bI_0] at q
      refine ih _ (fW_s f ⟨by decide, by decide⟩) ?_
      rw [q, if_neg (by decide), if_pos q2, show nI 0 = 0 from nI_0, Int32.sub_zero, wv_s24]
      have W2 := WV_howl (x := m (13 + i) + nI 1) hC hD W hi
      have e7 : upd m (13 + i) (m (13 + i) + nI 1) (7 + i) = m (7 + i) := un (by omega)
      rw [show upd (upd m (13 + i) (m (13 + i) + nI 1)) (7 + i) (m (7 + i)) = upd m (13 + i) (m (13 + i) + nI 1) by rw [← e7, upd_same]]
      exact W2
    · rw [bI_0] at q
      refine ih _ (fW_s (fW_s f ⟨by decide, by decide⟩) ⟨by decide, by decide⟩) ?_
      rw [q, if_neg (by decide), if_neg q2, wv_s23 _ (by omega), wv_s24]
      exact WV_cold hC hD (WV_howl (x := m (13 + i) + nI 1) hC hD W hi) hi (exm _ ex q2)
/-- boiling: after i dummies -/
def boR (s : Int32) (n : Nat → Int32) : Nat → Nat → Int32
  | 0 => n
  | i + 1 => upd (upd (boR s n i) (26 + i) (if hasB s (nI i) then nI 0 else boR s n i (26 + i))) (20 + i) (boR s n i (20 + i) + (if hasB s (nI i) then nI 1 else nI 0))
theorem d_boilAll {f : Nat → Bool} (hP : PR h g C D) (hW : WV (wv h) (g 68) C D) (k : ∀ h1, fW h h1 → WV (wv h1) (boR (stF f D) (g 68) D) C D → Q none h1) : dh_C G mX8_boilAll [.ref 19, .int (stF f D)] h Q := by
  have hP' := hP
  obtain ⟨eC, hC, eD, hD, -, -⟩ := hP'
  have hcal : ∀ i, i < D → hasB (stF f D) (nI i) = f i ∧ isInB (stF f D) (nI i) = f i := fun i hi => ⟨has_st _ hD hi, isIn_st _ hD hi⟩
  refine e_X8_boilAll ?_
  generalize stF f D = s at hcal k ⊢
  refine dh_up (P := fun i => ∀ hi, fW h hi → WV (wv hi) (boR s (g 68) i) C D → dh_J G mX8_boilAll 2 [some (.ref 19), some (.int s), some (.int (nI i))] [] hi Q) D ?_ ?_ 0 (by omega) h (fW_rf h) hW
  · intro hi f W
    exact w_X8_boilAll_2 ⟨fun _ => k _ f W, fun q => absurd (Int32.le_refl _) (by rw [f 3 (by omega), eD] at q; exact q)⟩
  · intro i hi ih hh f W
    refine w_X8_boilAll_2 ⟨fun q => ?_, fun q => d_isIn ?_⟩
    · rw [f 3 (by omega), eD, nI_leI (by omega) (by omega)] at q
      omega
    rw [(hcal i hi).2]
    have eb := (W.2.2.2.2.2.1 i hi).1
    rw [wv_bo hh (by omega)] at eb
    have step : boR s (g 68) (i + 1) = upd (upd (boR s (g 68) i) (26 + i) (if hasB s (nI i) then nI 0 else boR s (g 68) i (26 + i))) (20 + i) (boR s (g 68) i (20 + i) + (if hasB s (nI i) then nI 1 else nI 0)) := rfl
    rw [step, (hcal i hi).1] at ih
    generalize boR s (g 68) i = m at ih W eb ⊢
    refine w_X8_boilAll_18 ?_
    simp (disch := omega) only [nI_add, nI_clamp, eb]
    refine ⟨fun q => ?_, fun q => ⟨vp_in_nI (by omega) (by omega), vp_in_nI (by omega) (by omega), vp_in_nI (by omega) (by omega), ?_⟩⟩
    · rw [bI_0] at q
      refine ih hh f ?_
      rw [q, if_neg (by decide), if_neg (by decide), show nI 0 = 0 from nI_0, Int32.add_zero, upd_same, upd_same]
      exact W
    · rw [bI_n0] at q
      refine ih _ (fW_s (fW_s f ⟨by decide, by decide⟩) ⟨by decide, by decide⟩) ?_
      rw [q, if_pos rfl, if_pos rfl, wv_s21 _ (by omega), wv_s22 _ (by omega)]
      have := WV_boil (x := m (20 + i) + nI 1) hC hD (WV_germ (x := nI 0) hC hD W hi) hi
      exact this
/-- the box: neither on the floor nor in a mouth -/
def boxB (g : dh_H) (C d : Nat) : Bool := !hasB (g 68 19) (nI d) && decide (holder g C (nI d) = -1)
theorem box_pl (hP : PR h g C D) (hW : WV (wv h) (g 68) C D) : stF (fun d => decide (h 20 d = -1)) D = stF (boxB g C) D := by
  obtain ⟨eC, hC, eD, hD, -, -⟩ := hP
  refine stF_congr (fun d hd => ?_)
  unfold boxB
  rw [floor_pl hD hW hd, holder_pl hC hW hd, wv_pl h (by omega)]
  rcases hW.2.1 d hd with e | e | ⟨c, hc, e⟩
  · rw [wv_pl h (by omega)] at e
    rw [e]
    decide
  · rw [wv_pl h (by omega)] at e
    rw [e]
    decide
  · rw [wv_pl h (by omega)] at e
    rw [e, if_neg (nI_pos (by omega))]
    simp [nI_ne_m1 (show c < 2 ^ 31 by omega)]
theorem c_boil {b : Nat} (hN : mN h C D) (hb : h 61 26 = nI b) (hb20 : b ≤ 20) (k1 : stF (boxB h C) D = 0 → Q (some (.int (-1000000003))) h) (k2 : ¬ stF (boxB h C) D = 0 → Q (some (.int (stF (boxB h C) D))) (hr (nt h b) 68 (boR (stF (boxB h C) D) (h 68) D))) : dh_C G mX10_boil [.ref 61] h Q := by
  have hN' := hN
  obtain ⟨eC, hC, eD, hD⟩ := hN'
  refine e_X10_boil ?_
  refine dh_up (P := fun i => dh_J G mX10_boil 4 [some (.ref 61), some (.int (stF (boxB h C) i)), some (.int (nI i))] [] h Q) D ?_ ?_ 0 (by omega)
  · refine w_X10_boil_4 ⟨fun _ => ⟨fun q => ?_, fun q => k1 q⟩, fun q => absurd (Int32.le_refl _) (by rw [eD] at q; exact q)⟩
    have k := k2 q
    generalize stF (boxB h C) D = s at k ⊢
    refine c_note hb hb20 (w_X10_boil_62 ?_)
    have e0 : hr (nt h b) 68 (boR s (h 68) 0) = nt h b := by
      show hr (nt h b) 68 (h 68) = nt h b
      rw [← nt_n (h := h) (b := b) (show 68 ≠ 61 by decide) (show 68 ≠ 69 by decide)]
      exact hr_id _ _
    have key := dh_up (P := fun i => dh_J G mX10_boil 64 [some (.ref 61), some (.int s), some (.int (nI i))] [] (hr (nt h b) 68 (boR s (h 68) i)) Q) D ?_ ?_ 0 (by omega)
    · rw [e0] at key
      exact key
    · refine w_X10_boil_64 ⟨fun _ => k, fun q => ?_⟩
      rw [show hr (nt h b) 68 (boR s (h 68) D) 61 20 = nt h b 61 20 from rfl, nt_61 (by decide), eD] at q
      exact absurd (Int32.le_refl _) q
    · intro i hi ih
      have ih : dh_J G mX10_boil 64 [some (.ref 61), some (.int s), some (.int (nI (i + 1)))] [] (hr (nt h b) 68 (upd (upd (boR s (h 68) i) (26 + i) (if hasB s (nI i) then nI 0 else boR s (h 68) i (26 + i))) (20 + i) (boR s (h 68) i (20 + i) + (if hasB s (nI i) then nI 1 else nI 0)))) Q := ih
      generalize boR s (h 68) i = m at ih ⊢
      refine w_X10_boil_64 ⟨fun q => ?_, fun q => c_has ?_⟩
      · rw [show hr (nt h b) 68 m 61 20 = nt h b 61 20 from rfl, nt_61 (by decide), eD, nI_leI (by omega) (by omega)] at q
        omega
      · refine w_X10_boil_85 ?_
        simp (disch := omega) only [nI_add, nI_clamp, dh_s_hr, hr_hr, hr_i]
        refine ⟨fun q => ⟨vp_in_nI (by omega) (by omega), vp_in_nI (by omega) (by omega), vp_in_nI (by omega) (by omega), c_has ?_⟩, fun q => ⟨vp_in_nI (by omega) (by omega), vp_in_nI (by omega) (by omega), c_has ?_⟩⟩
        · refine w_X10_boil_117 ?_
          simp (disch := omega) only [nI_add, nI_clamp, dh_s_hr, hr_hr, hr_i]
          rw [un (show 20 + i ≠ 26 + i by omega)]
          refine ⟨fun q2 => ⟨vp_in_nI (by omega) (by omega), ?_⟩, fun q2 => absurd q q2⟩
          rw [bI_0] at q
          rw [q, if_neg (by decide), if_neg (by decide)] at ih
          exact ih
        · refine w_X10_boil_117 ?_
          simp (disch := omega) only [nI_add, nI_clamp, dh_s_hr, hr_hr, hr_i]
          rw [un (show 20 + i ≠ 26 + i by omega)]
          refine ⟨fun q2 => absurd q2 q, fun q2 => ⟨vp_in_nI (by omega) (by omega), ?_⟩⟩
          rw [bI_n0] at q
          rw [q, if_pos rfl, if_pos rfl] at ih
          exact ih
  · intro i hi ih
    refine w_X10_boil_4 ⟨fun q => ?_, fun q => c_has ?_⟩
    · rw [eD, nI_leI (by omega) (by omega)] at q
      omega
    · refine w_X10_boil_24 ⟨fun q2 => ?_, fun q2 => c_holderOf hN ?_⟩
      · rw [bI_n0] at q2
        rw [nI_add, ← stF_f (f := boxB h C) (by simp [boxB, q2])]
        exact ih
      · rw [bI_0] at q2
        refine w_X10_boil_32 ⟨fun q3 => ?_, fun q3 => ?_⟩
        · rw [nI_add, ← stF_f (f := boxB h C) (by simp [boxB, q3])]
          exact ih
        · rw [nI_add, ← stF_t (f := boxB h C) (by simp [boxB, q2, q3])]
          exact ih
end CA
