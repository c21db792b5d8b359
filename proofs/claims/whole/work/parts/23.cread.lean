/-! the class's reads, beside a model state g -/
section CR
variable {G : dh_G} {h g : dh_H} {C D : Nat} {Q : Option Value → dh_H → Prop}
/-- the plan's cells beside the model's -/
def PR (h g : dh_H) (C D : Nat) : Prop :=
  h 3 3 = nI C ∧ C ≤ 6 ∧ h 3 4 = nI D ∧ D ≤ 6 ∧
  (∀ c, c < C → h 4 c = g 65 (2 * c) ∧ h 5 c = g 65 (2 * c + 1) ∧ h 6 c = g 67 c ∧ oI (g 67 c) D ∧ (g 65 (2 * c) = 0 ∨ g 65 (2 * c) = nI 1 ∨ g 65 (2 * c) = nI 2 ∨ g 65 (2 * c) = nI 3)) ∧
  (∀ d, d < D → h 7 d = g 66 (4 * d) ∧ h 8 d = g 66 (4 * d + 1) ∧ h 9 d = g 66 (4 * d + 2) ∧ h 10 d = g 66 (4 * d + 3))
/-- the ward as one row of 31 -/
def wv (h : dh_H) : Nat → Int32 := fun k => if k = 0 then h 19 1 else if k < 7 then h 20 (k - 1) else if k < 13 then h 21 (k - 7) else if k < 19 then h 22 (k - 13) else if k < 25 then h 23 (k - 19) else h 24 (k - 25)
/-- a row of 31 beside the model's row of 32 -/
def WV (w n : Nat → Int32) (C D : Nat) : Prop :=
  w 0 = n 0 ∧
  (∀ d, d < D → (w (1 + d) = -1 ∨ w (1 + d) = -2 ∨ ∃ c, c < C ∧ w (1 + d) = nI c)) ∧
  (∀ d c, d < D → c < C → (w (1 + d) = nI c ↔ n (1 + c) = nI d)) ∧
  (∀ c, c < C → oI (n (1 + c)) D) ∧
  n 19 = stF (fun d => decide (w (1 + d) = -2)) D ∧
  (∀ d, d < D → w (7 + d) = n (20 + d) ∧ w (13 + d) = n (26 + d)) ∧
  (∀ c, c < C → w (19 + c) = n (7 + c) ∧ w (25 + c) = n (13 + c) ∧ ¬ n (7 + c) < 0)
theorem wv_pl (h : dh_H) {d : Nat} (hd : d < 6) : wv h (1 + d) = h 20 d := by
  unfold wv
  rw [if_neg (by omega), if_pos (by omega), show 1 + d - 1 = d by omega]
theorem wv_bo (h : dh_H) {d : Nat} (hd : d < 6) : wv h (7 + d) = h 21 d := by
  unfold wv
  rw [if_neg (by omega), if_neg (by omega), if_pos (by omega), show 7 + d - 7 = d by omega]
theorem wv_ge (h : dh_H) {d : Nat} (hd : d < 6) : wv h (13 + d) = h 22 d := by
  unfold wv
  rw [if_neg (by omega), if_neg (by omega), if_neg (by omega), if_pos (by omega), show 13 + d - 13 = d by omega]
theorem wv_co (h : dh_H) {d : Nat} (hd : d < 6) : wv h (19 + d) = h 23 d := by
  unfold wv
  rw [if_neg (by omega), if_neg (by omega), if_neg (by omega), if_neg (by omega), if_pos (by omega), show 19 + d - 19 = d by omega]
theorem wv_ho (h : dh_H) {d : Nat} : wv h (25 + d) = h 24 d := by
  unfold wv
  rw [if_neg (by omega), if_neg (by omega), if_neg (by omega), if_neg (by omega), if_neg (by omega), show 25 + d - 25 = d by omega]
theorem wv_0 (h : dh_H) : wv h 0 = h 19 1 := rfl
theorem d_hasN {x : Int32} {n : Nat} (hn : n < 2 ^ 31) : ((x < 0 → Q (some (.int (nI 0))) h) ∧ (¬ x < 0 → (nI n ≤ x → Q (some (.int (nI 0))) h) ∧ (¬ nI n ≤ x → Q (some (.int (nI 1))) h))) ↔ Q (some (.int (bI (ixB x n)))) h := by
  by_cases c1 : x < 0
  · rw [ixB_neg c1]
    simp [c1, bI]
  · obtain ⟨j, hj, rfl⟩ := nI_of c1
    rw [ixB_nI hj, nI_leI hn hj]
    by_cases c2 : n ≤ j
    · simp [c1, c2, show ¬ j < n by omega, bI]
    · simp [c1, c2, show j < n by omega, bI]
theorem d_hasChild {x : Int32} (e : h 3 3 = nI C) (hC : C ≤ 6) (k : Q (some (.int (bI (ixB x C)))) h) : dh_C G mX5_hasChild [.ref 3, .int x] h Q := by
  refine e_X5_hasChild_3 ?_
  rw [e]
  exact (d_hasN (by omega)).mpr k
theorem d_hasDummy {x : Int32} (e : h 3 4 = nI D) (hD : D ≤ 6) (k : Q (some (.int (bI (ixB x D)))) h) : dh_C G mX5_hasDummy [.ref 3, .int x] h Q := by
  refine e_X5_hasDummy ?_
  rw [e]
  exact (d_hasN (by omega)).mpr k
theorem d_isIn {s x : Int32} (k : Q (some (.int (bI (isInB s x)))) h) : dh_C G mX9_isIn [.int s, .int x] h Q := by
  refine e_X9_isIn ⟨fun c => ?_, fun c => ?_⟩
  · simpa [isInB, c, bI] using k
  · simpa [isInB, c, bI] using k
theorem ixB_oI {x : Int32} {n : Nat} (hn : n ≤ 6) (h : oI x n) : ixB x n = !decide (x = -1) := by
  rcases h with rfl | ⟨j, hj, rfl⟩
  · rw [ixB_neg (by decide)]
    decide
  · rw [ixB_nI (by omega)]
    simp [hj, nI_ne_m1 (show j < 2 ^ 31 by omega)]
theorem d_takesOwning {c : Nat} {mine x : Int32} (hP : PR h g C D) (hc : c < C) (hm : oI mine D) (k : Q (some (.int (bI (ixB x D && tkB g c x.toNatClampNeg mine)))) h) : dh_C G mX5_takesOwning [.ref 3, .int (nI c), .int mine, .int x] h Q := by
  obtain ⟨eC, hC, eD, hD, hc6, hd6⟩ := hP
  refine e_X5_takesOwning (d_hasChild eC hC ?_)
  refine w_X5_takesOwning_5 ⟨fun c1 => ?_, fun c1 => ?_⟩
  · rw [ixB_nI (by omega), bI_0] at c1
    simp [hc] at c1
  refine d_hasDummy eD hD ?_
  cases hx : ixB x D with
  | false =>
    rw [hx] at k
    exact w_X5_takesOwning_13 ⟨fun c2 => absurd rfl c2, fun _ => k⟩
  | true =>
    obtain ⟨d, hd, rfl⟩ := ixB_of (by omega) hx
    rw [hx, nI_clamp (by omega)] at k
    have k : Q (some (.int (bI (tkB g c d mine)))) h := k
    obtain ⟨q1, q2, q3, q4, q5⟩ := hc6 c hc
    refine w_X5_takesOwning_13 ⟨fun _ => ?_, fun c2 => absurd c2 (by decide)⟩
    simp (disch := omega) only [nI_clamp, q1]
    refine ⟨vp_in_nI (by omega) (by omega), fun c3 => ?_, fun c3 => ?_⟩
    · refine d_hasDummy eD hD ?_
      rw [ixB_oI hD hm]
      refine w_X5_takesOwning_35 ⟨fun c4 => ?_, fun c4 => ?_⟩
      · rw [bI_n0] at c4
        have hm1 : ¬ mine = -1 := by simpa using c4
        obtain ⟨m, hm6, rfl⟩ := oI_ix (by omega) hm hm1
        simp (disch := omega) only [nI_clamp, q1]
        obtain ⟨a1, a2, -, -⟩ := hd6 d hd
        obtain ⟨b1, b2, -, -⟩ := hd6 m hm6
        rw [a1, a2, b1, b2]
        refine ⟨vp_in_nI (by omega) (by omega), fun c5 => ⟨vp_in_nI (by omega) (by omega), fun c6 => ⟨fun c7 => ?_, fun c7 => ?_⟩, fun c6 => ⟨vp_in_nI (by omega) (by omega), vp_in_nI (by omega) (by omega), fun c7 => ?_, fun c7 => ?_⟩⟩, fun c5 => ⟨vp_in_nI (by omega) (by omega), vp_in_nI (by omega) (by omega), fun c7 => ?_, fun c7 => ?_⟩⟩
        · have h0 : g 65 (2 * c) = 0 := by rcases q5 with q | q | q | q; exact q; exact absurd q c5; exact absurd q c6; exact absurd q c3
          rw [show tkB g c d (nI m) = false by unfold tkB; rw [if_neg c7, if_neg c3, if_neg hm1, if_pos h0]] at k
          exact k
        · rw [show tkB g c d (nI m) = true by unfold tkB; rw [if_pos c7]] at k
          exact k
        · have h0 : ¬ g 65 (2 * c) = 0 := by rw [c6]; decide
          have hdm : ¬ nI d = nI m := fun e => c7 (by rw [nI_eq (by omega) (by omega)] at e; rw [e])
          rw [show tkB g c d (nI m) = false by unfold tkB; rw [if_neg hdm, if_neg c3, if_neg hm1, if_neg h0, if_neg c5, nI_clamp (by omega)]; simp [c7]] at k
          exact k
        · have h0 : ¬ g 65 (2 * c) = 0 := by rw [c6]; decide
          rw [show tkB g c d (nI m) = true by
            unfold tkB
            by_cases hdm : nI d = nI m
            · rw [if_pos hdm]
            · rw [if_neg hdm, if_neg c3, if_neg hm1, if_neg h0, if_neg c5, nI_clamp (by omega)]; simp [c7]] at k
          exact k
        · have h0 : ¬ g 65 (2 * c) = 0 := by rw [c5]; decide
          have hdm : ¬ nI d = nI m := fun e => c7 (by rw [nI_eq (by omega) (by omega)] at e; rw [e])
          rw [show tkB g c d (nI m) = false by unfold tkB; rw [if_neg hdm, if_neg c3, if_neg hm1, if_neg h0, if_pos c5, nI_clamp (by omega)]; simp [c7]] at k
          exact k
        · have h0 : ¬ g 65 (2 * c) = 0 := by rw [c5]; decide
          rw [show tkB g c d (nI m) = true by
            unfold tkB
            by_cases hdm : nI d = nI m
            · rw [if_pos hdm]
            · rw [if_neg hdm, if_neg c3, if_neg hm1, if_neg h0, if_pos c5, nI_clamp (by omega)]; simp [c7]] at k
          exact k
      · rw [bI_0] at c4
        have hm1 : mine = -1 := by simpa using c4
        subst hm1
        rw [show tkB g c d (-1) = false by unfold tkB; rw [if_neg (nI_ne_m1 (by omega)), if_neg c3, if_pos rfl]] at k
        exact k
    · rw [show tkB g c d mine = true by
        unfold tkB
        by_cases hdm : nI d = mine
        · rw [if_pos hdm]
        · rw [if_neg hdm, if_pos c3]] at k
      exact k
theorem d_takes {c : Nat} {x : Int32} (hP : PR h g C D) (hc : c < C) (k : Q (some (.int (bI (ixB x D && tk g c x.toNatClampNeg)))) h) : dh_C G mX5_takes [.ref 3, .int (nI c), .int x] h Q := by
  have hP' := hP
  obtain ⟨eC, hC, eD, hD, hc6, hd6⟩ := hP'
  refine e_X5_takes (d_hasChild eC hC ?_)
  refine w_X5_takes_5 ⟨fun c1 => ?_, fun c1 => ?_⟩
  · rw [ixB_nI (by omega), bI_0] at c1
    simp [hc] at c1
  simp (disch := omega) only [nI_clamp]
  obtain ⟨q1, q2, q3, q4, q5⟩ := hc6 c hc
  rw [q3]
  refine ⟨vp_in_nI (by omega) (by omega), d_takesOwning hP hc q4 ?_⟩
  refine w_X5_takes_20 ⟨fun c2 => ?_, fun c2 => ?_⟩
  · rw [bI_0] at c2
    rw [show (ixB x D && tk g c x.toNatClampNeg) = false from c2] at k
    exact k
  · rw [bI_n0] at c2
    rw [show (ixB x D && tk g c x.toNatClampNeg) = true from c2] at k
    exact k
theorem WV_H {w n : Nat → Int32} (hW : WV w n C D) : ∀ c, c < C → oI (n (1 + c)) D := hW.2.2.2.1
theorem d_dummyOf {c : Nat} (hP : PR h g C D) (hW : WV (wv h) (g 68) C D) (hc : c < C) (k : Q (some (.int (g 68 (1 + c)))) h) : dh_C G mX8_dummyOf [.ref 19, .int (nI c)] h Q := by
  obtain ⟨eC, hC, eD, hD, -, -⟩ := hP
  obtain ⟨-, -, w3, w4, -⟩ := hW
  refine e_X8_dummyOf ?_
  refine dh_up (P := fun i => (∀ j, j < i → ¬ h 20 j = nI c) → dh_J G mX8_dummyOf 2 [some (.ref 19), some (.int (nI c)), some (.int (nI i))] [] h Q) D ?_ ?_ 0 (by omega) (fun j hj => by omega)
  · intro hn
    refine w_X8_dummyOf_2 ⟨fun _ => ?_, fun q => absurd (Int32.le_refl _) (by rw [eD] at q; exact q)⟩
    rcases w4 c hc with e | ⟨d, hd, e⟩
    · rw [e] at k
      exact k
    · exact absurd ((w3 d c hd hc).mpr e) (by rw [wv_pl h (by omega)]; exact hn d hd)
  · intro i hi ih hn
    refine w_X8_dummyOf_2 ?_
    simp (disch := omega) only [eD, nI_leI, nI_add, nI_clamp]
    refine ⟨fun q => by omega, fun q => ⟨vp_in_nI (by omega) (by omega), fun q2 => ih (fun j hj => ?_), fun q2 => ?_⟩⟩
    · by_cases e : j = i
      · rw [e]; exact q2
      · exact hn j (by omega)
    · rw [(w3 i c hi hc).mp (by rw [wv_pl h (by omega)]; exact q2)] at k
      exact k
theorem calm_eq (g : dh_H) {c : Nat} (hD : D ≤ 6) (ho : oI (g 68 (1 + c)) D) : (ixB (g 68 (1 + c)) D && tk g c (g 68 (1 + c)).toNatClampNeg) = calm g c := by
  rw [ixB_oI hD ho]
  unfold calm
  by_cases e : g 68 (1 + c) = -1
  · simp [e]
  · simp [e]
theorem d_calmSet (hP : PR h g C D) (hW : WV (wv h) (g 68) C D) (k : Q (some (.int (stF (calm g) C))) h) : dh_C G mX8_calmSet [.ref 19] h Q := by
  have hP' := hP
  obtain ⟨eC, hC, eD, hD, -, -⟩ := hP'
  refine e_X8_calmSet ?_
  refine dh_up (P := fun i => dh_J G mX8_calmSet 4 [some (.ref 19), some (.int (stF (calm g) i)), some (.int (nI i))] [] h Q) C ?_ ?_ 0 (by omega)
  · exact w_X8_calmSet_4 ⟨fun _ => k, fun q => absurd (Int32.le_refl _) (by rw [eC] at q; exact q)⟩
  · intro i hi ih
    refine w_X8_calmSet_4 ⟨fun q => ?_, fun q => ?_⟩
    · rw [eC, nI_leI (by omega) (by omega)] at q
      omega
    · refine d_dummyOf hP hW hi ?_
      refine w_X8_calmSet_25 (d_takes hP hi ?_)
      rw [calm_eq g hD (WV_H hW i hi)]
      refine w_X8_calmSet_28 ⟨fun c2 => ?_, fun c2 => ?_⟩
      · rw [bI_0] at c2
        rw [stF_f c2, or_n0] at ih
        rw [nI_add]
        exact ih
      · rw [bI_n0] at c2
        rw [nI_add, ← stF_t c2]
        exact ih
theorem d_sickSet (hP : PR h g C D) (hW : WV (wv h) (g 68) C D) (k : Q (some (.int (stF (cold g) C))) h) : dh_C G mX8_sickSet [.ref 19] h Q := by
  obtain ⟨eC, hC, eD, hD, -, -⟩ := hP
  obtain ⟨-, -, -, -, -, -, w7⟩ := hW
  refine e_X8_sickSet ?_
  refine dh_up (P := fun i => dh_J G mX8_sickSet 4 [some (.ref 19), some (.int (stF (cold g) i)), some (.int (nI i))] [] h Q) C ?_ ?_ 0 (by omega)
  · exact w_X8_sickSet_4 ⟨fun _ => k, fun q => absurd (Int32.le_refl _) (by rw [eC] at q; exact q)⟩
  · intro i hi ih
    refine w_X8_sickSet_4 ?_
    have e := (w7 i hi).1
    rw [wv_co h (by omega)] at e
    simp (disch := omega) only [eC, nI_leI, nI_add, nI_clamp, e]
    refine ⟨fun q => by omega, fun q => ⟨vp_in_nI (by omega) (by omega), fun c2 => ?_, fun c2 => ?_⟩⟩
    · rw [stF_f (f := cold g) (by simp [cold, c2]), or_n0] at ih
      exact ih
    · rw [← stF_t (f := cold g) (by simp [cold, c2])]
      exact ih
theorem d_setAt {x : Int32} (hP : PR h g C D) (k : Q (some (.int (stF (fun d => decide (h 20 d = x)) D))) h) : dh_C G mX8_setAt [.ref 19, .int x] h Q := by
  obtain ⟨eC, hC, eD, hD, -, -⟩ := hP
  refine e_X8_setAt ?_
  refine dh_up (P := fun i => dh_J G mX8_setAt 4 [some (.ref 19), some (.int x), some (.int (stF (fun d => decide (h 20 d = x)) i)), some (.int (nI i))] [] h Q) D ?_ ?_ 0 (by omega)
  · exact w_X8_setAt_4 ⟨fun _ => k, fun q => absurd (Int32.le_refl _) (by rw [eD] at q; exact q)⟩
  · intro i hi ih
    refine w_X8_setAt_4 ?_
    simp (disch := omega) only [eD, nI_leI, nI_add, nI_clamp]
    refine ⟨fun q => by omega, fun q => ⟨vp_in_nI (by omega) (by omega), fun c2 => ?_, fun c2 => ?_⟩⟩
    · rw [stF_f (f := fun d => decide (h 20 d = x)) (by simp [c2]), or_n0] at ih
      exact ih
    · rw [← stF_t (f := fun d => decide (h 20 d = x)) (by simp [c2])]
      exact ih
theorem d_readableSet (hP : PR h g C D) (hW : WV (wv h) (g 68) C D) (k : Q (some (.int (stF (rdb g) D))) h) : dh_C G mX8_readableSet [.ref 19] h Q := by
  obtain ⟨eC, hC, eD, hD, -, hd6⟩ := hP
  obtain ⟨-, -, -, -, -, w6, -⟩ := hW
  refine e_X8_readableSet ?_
  refine dh_up (P := fun i => dh_J G mX8_readableSet 4 [some (.ref 19), some (.int (stF (rdb g) i)), some (.int (nI i))] [] h Q) D ?_ ?_ 0 (by omega)
  · exact w_X8_readableSet_4 ⟨fun _ => k, fun q => absurd (Int32.le_refl _) (by rw [eD] at q; exact q)⟩
  · intro i hi ih
    refine w_X8_readableSet_4 ?_
    have e := (w6 i hi).1
    rw [wv_bo h (by omega)] at e
    have e2 := (hd6 i hi).2.2.1
    simp (disch := omega) only [eD, nI_leI, nI_add, nI_clamp, e, e2]
    refine ⟨fun q => by omega, fun q => ⟨vp_in_nI (by omega) (by omega), vp_in_nI (by omega) (by omega), fun c2 => ?_, fun c2 => ?_⟩⟩
    · rw [stF_f (f := rdb g) (by simp [rdb, c2]), or_n0] at ih
      exact ih
    · rw [← stF_t (f := rdb g) (by simp [rdb, c2])]
      exact ih
end CR
