/-! states kept: the class's ring, the model's row -/
section PS
variable {G : dh_G} {h g : dh_H} {C D : Nat} {Q : Option Value → dh_H → Prop} {w n w' n' : Nat → Int32}
theorem WV_ext (hC : C ≤ 6) (hD : D ≤ 6) (hW : WV w n C D) (h1 : ∀ k, k < 31 → w' k = w k) (h2 : ∀ k, k < 32 → n' k = n k) : WV w' n' C D := by
  obtain ⟨w1, w2, w3, w4, w5, w6, w7⟩ := hW
  refine ⟨?_, fun d hd => ?_, fun d c hd hc => ?_, fun c hc => ?_, ?_, fun d hd => ?_, fun c hc => ?_⟩
  · rw [h1 0 (by omega), h2 0 (by omega)]; exact w1
  · rw [h1 _ (by omega)]; exact w2 d hd
  · rw [h1 _ (by omega), h2 _ (by omega)]; exact w3 d c hd hc
  · rw [h2 _ (by omega)]; exact w4 c hc
  · rw [h2 _ (by omega), w5]; exact stF_congr (fun i hi => by rw [h1 _ (by omega)])
  · rw [h1 _ (by omega), h1 _ (by omega), h2 _ (by omega), h2 _ (by omega)]; exact w6 d hd
  · rw [h1 _ (by omega), h1 _ (by omega), h2 _ (by omega), h2 _ (by omega)]; exact w7 c hc
/-- the ward's cells laid into a row from f on -/
def svR (h : dh_H) (b : Nat → Int32) (f : Nat) : Nat → Int32 := va_cpy (h 24) (va_cpy (h 23) (va_cpy (h 22) (va_cpy (h 21) (va_cpy (h 20) (upd b f (h 19 1)) 0 (f + 1) 6) 0 (f + 1 + 6) 6) 0 (f + 1 + 12) 6) 0 (f + 1 + 18) 6) 0 (f + 1 + 24) 6
theorem svR_in (h : dh_H) (b : Nat → Int32) (f : Nat) {j : Nat} (hj : j < 31) : svR h b f (f + j) = wv h j := by
  unfold svR
  by_cases q0 : j = 0
  · subst q0
    rw [pk_cpy_out (by omega), pk_cpy_out (by omega), pk_cpy_out (by omega), pk_cpy_out (by omega), pk_cpy_out (by omega), Nat.add_zero, us, wv_0]
  by_cases q1 : j < 7
  · obtain ⟨d, rfl⟩ : ∃ d, j = 1 + d := ⟨j - 1, by omega⟩
    rw [pk_cpy_out (by omega), pk_cpy_out (by omega), pk_cpy_out (by omega), pk_cpy_out (by omega), pk_cpy_in (by omega) (by omega), wv_pl h (by omega), show 0 + (f + (1 + d) - (f + 1)) = d by omega]
  by_cases q2 : j < 13
  · obtain ⟨d, rfl⟩ : ∃ d, j = 7 + d := ⟨j - 7, by omega⟩
    rw [pk_cpy_out (by omega), pk_cpy_out (by omega), pk_cpy_out (by omega), pk_cpy_in (by omega) (by omega), wv_bo h (by omega), show 0 + (f + (7 + d) - (f + 1 + 6)) = d by omega]
  by_cases q3 : j < 19
  · obtain ⟨d, rfl⟩ : ∃ d, j = 13 + d := ⟨j - 13, by omega⟩
    rw [pk_cpy_out (by omega), pk_cpy_out (by omega), pk_cpy_in (by omega) (by omega), wv_ge h (by omega), show 0 + (f + (13 + d) - (f + 1 + 12)) = d by omega]
  by_cases q4 : j < 25
  · obtain ⟨d, rfl⟩ : ∃ d, j = 19 + d := ⟨j - 19, by omega⟩
    rw [pk_cpy_out (by omega), pk_cpy_in (by omega) (by omega), wv_co h (by omega), show 0 + (f + (19 + d) - (f + 1 + 18)) = d by omega]
  · obtain ⟨d, rfl⟩ : ∃ d, j = 25 + d := ⟨j - 25, by omega⟩
    rw [pk_cpy_in (by omega) (by omega), wv_ho h, show 0 + (f + (25 + d) - (f + 1 + 24)) = d by omega]
theorem svR_out (h : dh_H) (b : Nat → Int32) (f : Nat) {j : Nat} (hj : j < f ∨ f + 31 ≤ j) : svR h b f j = b j := by
  unfold svR
  rw [pk_cpy_out (by omega), pk_cpy_out (by omega), pk_cpy_out (by omega), pk_cpy_out (by omega), pk_cpy_out (by omega), un (by omega)]
theorem fW_c {h h1 : dh_H} (f : fW h h1) {a b sp dp n : Nat} (hb : 19 ≤ b ∧ b ≤ 24) : fW h (dh_c h1 a b sp dp n) := fun q hq => by
  rw [dh_c_n (fun e => hq (by rw [e]; exact hb))]
  exact f q hq
theorem d_saveTo_26 {f : Nat} (hf : f + 31 ≤ 620) (k : Q none (hr h 26 (svR h (h 26) f))) : dh_C G mX8_saveTo [.ref 19, .ref 26, .int (nI f)] h Q := by
  refine e_X8_saveTo_26 ⟨fun q => absurd q (nI_pos (by omega)), fun _ => ?_⟩
  simp (disch := omega) only [nI_add, nI_clamp, pk_sub, nI_leI]
  refine ⟨fun _ => ⟨vp_in_nI (by omega) (by omega), ?_⟩, fun q => absurd (show f ≤ 620 - 31 by omega) q⟩
  iterate 25 (refine ⟨by first | omega | exact nI_pos (by omega), ?_⟩)
  simp (disch := decide) only [dh_c_hr, dh_s_hr, hr_hr, hr_i, hr_n]
  exact k
/-- the ward's cells out of row 26, from f on -/
theorem d_loadFrom_26 {f : Nat} (hf : f + 31 ≤ 620) (k : ∀ h1, fW h h1 → (∀ j, j < 31 → wv h1 j = h 26 (f + j)) → Q none h1) : dh_C G mX8_loadFrom [.ref 19, .ref 26, .int (nI f)] h Q := by
  refine e_X8_loadFrom_26 ⟨fun q => absurd q (nI_pos (by omega)), fun _ => ?_⟩
  simp (disch := omega) only [nI_add, nI_clamp, pk_sub, nI_leI]
  refine ⟨fun _ => ⟨vp_in_nI (by omega) (by omega), ?_⟩, fun q => absurd (show f ≤ 620 - 31 by omega) q⟩
  iterate 25 (refine ⟨by first | omega | exact nI_pos (by omega), ?_⟩)
  refine k _ (fW_c (fW_c (fW_c (fW_c (fW_c (fW_s (fW_rf h) ⟨by decide, by decide⟩) ⟨by decide, by decide⟩) ⟨by decide, by decide⟩) ⟨by decide, by decide⟩) ⟨by decide, by decide⟩) ⟨by decide, by decide⟩) (fun j hj => ?_)
  simp (disch := decide) only [dh_c_hr, dh_s_hr, hr_hr, hr_i, hr_n]
  by_cases q0 : j = 0
  · subst q0
    rw [wv_0]
    simp (disch := decide) only [hr_hr, hr_i, hr_n, Nat.add_zero]
    rw [us]
  by_cases q1 : j < 7
  · obtain ⟨d, rfl⟩ : ∃ d, j = 1 + d := ⟨j - 1, by omega⟩
    rw [wv_pl _ (by omega)]
    simp (disch := decide) only [hr_hr, hr_i, hr_n]
    rw [pk_cpy_in (by omega) (by omega), show f + 1 + (d - 0) = f + (1 + d) by omega]
  by_cases q2 : j < 13
  · obtain ⟨d, rfl⟩ : ∃ d, j = 7 + d := ⟨j - 7, by omega⟩
    rw [wv_bo _ (by omega)]
    simp (disch := decide) only [hr_hr, hr_i, hr_n]
    rw [pk_cpy_in (by omega) (by omega), show f + 1 + 6 + (d - 0) = f + (7 + d) by omega]
  by_cases q3 : j < 19
  · obtain ⟨d, rfl⟩ : ∃ d, j = 13 + d := ⟨j - 13, by omega⟩
    rw [wv_ge _ (by omega)]
    simp (disch := decide) only [hr_hr, hr_i, hr_n]
    rw [pk_cpy_in (by omega) (by omega), show f + 1 + 12 + (d - 0) = f + (13 + d) by omega]
  by_cases q4 : j < 25
  · obtain ⟨d, rfl⟩ : ∃ d, j = 19 + d := ⟨j - 19, by omega⟩
    rw [wv_co _ (by omega)]
    simp (disch := decide) only [hr_hr, hr_i, hr_n]
    rw [pk_cpy_in (by omega) (by omega), show f + 1 + 18 + (d - 0) = f + (19 + d) by omega]
  · obtain ⟨d, rfl⟩ : ∃ d, j = 25 + d := ⟨j - 25, by omega⟩
    rw [wv_ho]
    simp (disch := decide) only [hr_hr, hr_i, hr_n]
    rw [pk_cpy_in (by omega) (by omega), show f + 1 + 24 + (d - 0) = f + (25 + d) by omega]
theorem d_saveTo_57 {f : Nat} (hf : f + 31 ≤ 31) (k : Q none (hr h 57 (svR h (h 57) f))) : dh_C G mX8_saveTo [.ref 19, .ref 57, .int (nI f)] h Q := by
  refine e_X8_saveTo_57 ⟨fun q => absurd q (nI_pos (by omega)), fun _ => ?_⟩
  simp (disch := omega) only [nI_add, nI_clamp, pk_sub, nI_leI]
  refine ⟨fun _ => ⟨vp_in_nI (by omega) (by omega), ?_⟩, fun q => absurd (show f ≤ 31 - 31 by omega) q⟩
  iterate 25 (refine ⟨by first | omega | exact nI_pos (by omega), ?_⟩)
  simp (disch := decide) only [dh_c_hr, dh_s_hr, hr_hr, hr_i, hr_n]
  exact k
/-- the ward's cells out of row 57, from f on -/
theorem d_loadFrom_57 {f : Nat} (hf : f + 31 ≤ 31) (k : ∀ h1, fW h h1 → (∀ j, j < 31 → wv h1 j = h 57 (f + j)) → Q none h1) : dh_C G mX8_loadFrom [.ref 19, .ref 57, .int (nI f)] h Q := by
  refine e_X8_loadFrom_57 ⟨fun q => absurd q (nI_pos (by omega)), fun _ => ?_⟩
  simp (disch := omega) only [nI_add, nI_clamp, pk_sub, nI_leI]
  refine ⟨fun _ => ⟨vp_in_nI (by omega) (by omega), ?_⟩, fun q => absurd (show f ≤ 31 - 31 by omega) q⟩
  iterate 25 (refine ⟨by first | omega | exact nI_pos (by omega), ?_⟩)
  refine k _ (fW_c (fW_c (fW_c (fW_c (fW_c (fW_s (fW_rf h) ⟨by decide, by decide⟩) ⟨by decide, by decide⟩) ⟨by decide, by decide⟩) ⟨by decide, by decide⟩) ⟨by decide, by decide⟩) ⟨by decide, by decide⟩) (fun j hj => ?_)
  simp (disch := decide) only [dh_c_hr, dh_s_hr, hr_hr, hr_i, hr_n]
  by_cases q0 : j = 0
  · subst q0
    rw [wv_0]
    simp (disch := decide) only [hr_hr, hr_i, hr_n, Nat.add_zero]
    rw [us]
  by_cases q1 : j < 7
  · obtain ⟨d, rfl⟩ : ∃ d, j = 1 + d := ⟨j - 1, by omega⟩
    rw [wv_pl _ (by omega)]
    simp (disch := decide) only [hr_hr, hr_i, hr_n]
    rw [pk_cpy_in (by omega) (by omega), show f + 1 + (d - 0) = f + (1 + d) by omega]
  by_cases q2 : j < 13
  · obtain ⟨d, rfl⟩ : ∃ d, j = 7 + d := ⟨j - 7, by omega⟩
    rw [wv_bo _ (by omega)]
    simp (disch := decide) only [hr_hr, hr_i, hr_n]
    rw [pk_cpy_in (by omega) (by omega), show f + 1 + 6 + (d - 0) = f + (7 + d) by omega]
  by_cases q3 : j < 19
  · obtain ⟨d, rfl⟩ : ∃ d, j = 13 + d := ⟨j - 13, by omega⟩
    rw [wv_ge _ (by omega)]
    simp (disch := decide) only [hr_hr, hr_i, hr_n]
    rw [pk_cpy_in (by omega) (by omega), show f + 1 + 12 + (d - 0) = f + (13 + d) by omega]
  by_cases q4 : j < 25
  · obtain ⟨d, rfl⟩ : ∃ d, j = 19 + d := ⟨j - 19, by omega⟩
    rw [wv_co _ (by omega)]
    simp (disch := decide) only [hr_hr, hr_i, hr_n]
    rw [pk_cpy_in (by omega) (by omega), show f + 1 + 18 + (d - 0) = f + (19 + d) by omega]
  · obtain ⟨d, rfl⟩ : ∃ d, j = 25 + d := ⟨j - 25, by omega⟩
    rw [wv_ho]
    simp (disch := decide) only [hr_hr, hr_i, hr_n]
    rw [pk_cpy_in (by omega) (by omega), show f + 1 + 24 + (d - 0) = f + (25 + d) by omega]
theorem d_saveTo_59 {f : Nat} (hf : f + 31 ≤ 31) (k : Q none (hr h 59 (svR h (h 59) f))) : dh_C G mX8_saveTo [.ref 19, .ref 59, .int (nI f)] h Q := by
  refine e_X8_saveTo_59 ⟨fun q => absurd q (nI_pos (by omega)), fun _ => ?_⟩
  simp (disch := omega) only [nI_add, nI_clamp, pk_sub, nI_leI]
  refine ⟨fun _ => ⟨vp_in_nI (by omega) (by omega), ?_⟩, fun q => absurd (show f ≤ 31 - 31 by omega) q⟩
  iterate 25 (refine ⟨by first | omega | exact nI_pos (by omega), ?_⟩)
  simp (disch := decide) only [dh_c_hr, dh_s_hr, hr_hr, hr_i, hr_n]
  exact k
/-- the ward's cells out of row 59, from f on -/
theorem d_loadFrom_59 {f : Nat} (hf : f + 31 ≤ 31) (k : ∀ h1, fW h h1 → (∀ j, j < 31 → wv h1 j = h 59 (f + j)) → Q none h1) : dh_C G mX8_loadFrom [.ref 19, .ref 59, .int (nI f)] h Q := by
  refine e_X8_loadFrom_59 ⟨fun q => absurd q (nI_pos (by omega)), fun _ => ?_⟩
  simp (disch := omega) only [nI_add, nI_clamp, pk_sub, nI_leI]
  refine ⟨fun _ => ⟨vp_in_nI (by omega) (by omega), ?_⟩, fun q => absurd (show f ≤ 31 - 31 by omega) q⟩
  iterate 25 (refine ⟨by first | omega | exact nI_pos (by omega), ?_⟩)
  refine k _ (fW_c (fW_c (fW_c (fW_c (fW_c (fW_s (fW_rf h) ⟨by decide, by decide⟩) ⟨by decide, by decide⟩) ⟨by decide, by decide⟩) ⟨by decide, by decide⟩) ⟨by decide, by decide⟩) ⟨by decide, by decide⟩) (fun j hj => ?_)
  simp (disch := decide) only [dh_c_hr, dh_s_hr, hr_hr, hr_i, hr_n]
  by_cases q0 : j = 0
  · subst q0
    rw [wv_0]
    simp (disch := decide) only [hr_hr, hr_i, hr_n, Nat.add_zero]
    rw [us]
  by_cases q1 : j < 7
  · obtain ⟨d, rfl⟩ : ∃ d, j = 1 + d := ⟨j - 1, by omega⟩
    rw [wv_pl _ (by omega)]
    simp (disch := decide) only [hr_hr, hr_i, hr_n]
    rw [pk_cpy_in (by omega) (by omega), show f + 1 + (d - 0) = f + (1 + d) by omega]
  by_cases q2 : j < 13
  · obtain ⟨d, rfl⟩ : ∃ d, j = 7 + d := ⟨j - 7, by omega⟩
    rw [wv_bo _ (by omega)]
    simp (disch := decide) only [hr_hr, hr_i, hr_n]
    rw [pk_cpy_in (by omega) (by omega), show f + 1 + 6 + (d - 0) = f + (7 + d) by omega]
  by_cases q3 : j < 19
  · obtain ⟨d, rfl⟩ : ∃ d, j = 13 + d := ⟨j - 13, by omega⟩
    rw [wv_ge _ (by omega)]
    simp (disch := decide) only [hr_hr, hr_i, hr_n]
    rw [pk_cpy_in (by omega) (by omega), show f + 1 + 12 + (d - 0) = f + (13 + d) by omega]
  by_cases q4 : j < 25
  · obtain ⟨d, rfl⟩ : ∃ d, j = 19 + d := ⟨j - 19, by omega⟩
    rw [wv_co _ (by omega)]
    simp (disch := decide) only [hr_hr, hr_i, hr_n]
    rw [pk_cpy_in (by omega) (by omega), show f + 1 + 18 + (d - 0) = f + (19 + d) by omega]
  · obtain ⟨d, rfl⟩ : ∃ d, j = 25 + d := ⟨j - 25, by omega⟩
    rw [wv_ho]
    simp (disch := decide) only [hr_hr, hr_i, hr_n]
    rw [pk_cpy_in (by omega) (by omega), show f + 1 + 24 + (d - 0) = f + (25 + d) by omega]
/-- the states kept: t the ring's top, b how many -/
def PA (h g : dh_H) (C D t b : Nat) : Prop :=
  h 25 1 = nI t ∧ t < 20 ∧ h 25 2 = nI b ∧ b ≤ 20 ∧ g 61 26 = nI b ∧ ∀ j, j < b → WV (fun k => h 26 ((t + 20 - b + j) % 20 * 31 + k)) (fun k => g 69 (32 * j + k)) C D
/-- nothing but the past has changed -/
def fP (h h1 : dh_H) : Prop := ∀ a, ¬ (25 ≤ a ∧ a ≤ 26) → h1 a = h a
def nb (b : Nat) : Nat := if b = 20 then 20 else b + 1
theorem d_remember {t b : Nat} (hC : C ≤ 6) (hD : D ≤ 6) (hA : PA h g C D t b) (hW : WV (wv h) (g 68) C D) (k : ∀ h1, fP h h1 → PA h1 (nt g b) C D ((t + 1) % 20) (nb b) → Q none h1) : dh_C G mX4_remember [.ref 25, .ref 19] h Q := by
  obtain ⟨a1, a2, a3, a4, a5, a6⟩ := hA
  refine e_X4_remember ?_
  rw [a1, pk_mul]
  refine d_saveTo_26 (by omega) (w_X4_remember_15 ?_)
  simp (disch := decide) only [hr_n]
  rw [a1, a3, nI_add, nI_add, pk_rem (by omega) (by decide) (by decide)]
  have emin : (if nI 20 < nI (b + 1) then nI 20 else nI (b + 1)) = nI (nb b) := by
    unfold nb
    by_cases q : b = 20
    · rw [if_pos (by rw [nI_ltI (by decide) (by omega)]; omega), if_pos q]
    · rw [if_neg (by rw [nI_ltI (by decide) (by omega)]; omega), if_neg q]
  rw [emin]
  refine ⟨by decide, k _ (fun a ha => ?_) ⟨?_, by omega, ?_, by unfold nb; split <;> omega, ?_, ?_⟩⟩
  · rw [dh_s_n (by omega), dh_s_n (by omega), hr_n (by omega)]
  · rw [dh_s_nk (by decide), dh_s_eq]
  · rw [dh_s_eq]
  · rw [nt_26 a4]; rfl
  · intro j hj
    have e26 : ∀ i, dh_s (dh_s (hr h 26 (svR h (h 26) (t * 31))) 25 1 (nI ((t + 1) % 20))) 25 2 (nI (nb b)) 26 i = svR h (h 26) (t * 31) i := fun i => rfl
    by_cases q : b = 20
    · subst q
      have hnb : nb 20 = 20 := rfl
      rw [hnb] at hj ⊢
      by_cases q2 : j < 19
      · have h1 := a6 (j + 1) (by omega)
        refine WV_ext hC hD h1 (fun i hi => ?_) (fun i hi => ?_)
        · show dh_s (dh_s (hr h 26 (svR h (h 26) (t * 31))) 25 1 (nI ((t + 1) % 20))) 25 2 (nI (nb 20)) 26 _ = h 26 _
          rw [e26, svR_out _ _ _ (by omega), show ((t + 1) % 20 + 20 - 20 + j) % 20 = (t + 20 - 20 + (j + 1)) % 20 by omega]
        · show nt g 20 69 (32 * j + i) = g 69 (32 * (j + 1) + i)
          unfold nt
          rw [if_pos rfl, dh_s_n (by decide), dh_c_i, pk_cpy_out (by omega), dh_s_n (by decide), dh_c_i, pk_cpy_in (by omega) (by omega), show 32 + (32 * j + i - 0) = 32 * (j + 1) + i by omega]
      · refine WV_ext hC hD hW (fun i hi => ?_) (fun i hi => ?_)
        · show dh_s (dh_s (hr h 26 (svR h (h 26) (t * 31))) 25 1 (nI ((t + 1) % 20))) 25 2 (nI (nb 20)) 26 _ = wv h i
          rw [e26, show ((t + 1) % 20 + 20 - 20 + j) % 20 = t by omega, svR_in _ _ _ hi]
        · show nt g 20 69 (32 * j + i) = g 68 i
          unfold nt
          rw [if_pos rfl, dh_s_n (by decide), dh_c_i, pk_cpy_in (by omega) (by omega), dh_s_n (by decide), dh_c_n (by decide), show 0 + (32 * j + i - 608) = i by omega]
    · have hnb : nb b = b + 1 := if_neg q
      rw [hnb] at hj ⊢
      by_cases q2 : j < b
      · have h1 := a6 j q2
        refine WV_ext hC hD h1 (fun i hi => ?_) (fun i hi => ?_)
        · show dh_s (dh_s (hr h 26 (svR h (h 26) (t * 31))) 25 1 (nI ((t + 1) % 20))) 25 2 (nI (nb b)) 26 _ = h 26 _
          rw [e26, show ((t + 1) % 20 + 20 - (b + 1) + j) % 20 = (t + 20 - b + j) % 20 by omega, svR_out _ _ _ (by omega)]
        · show nt g b 69 (32 * j + i) = g 69 (32 * j + i)
          unfold nt
          rw [if_neg q, dh_s_n (by decide), dh_c_i, pk_cpy_out (by omega)]
      · have hjb : j = b := by omega
        subst hjb
        refine WV_ext hC hD hW (fun i hi => ?_) (fun i hi => ?_)
        · show dh_s (dh_s (hr h 26 (svR h (h 26) (t * 31))) 25 1 (nI ((t + 1) % 20))) 25 2 (nI (nb j)) 26 _ = wv h i
          rw [e26, show ((t + 1) % 20 + 20 - (j + 1) + j) % 20 = t by omega, svR_in _ _ _ hi]
        · show nt g j 69 (32 * j + i) = g 68 i
          unfold nt
          rw [if_neg q, dh_s_n (by decide), dh_c_i, pk_cpy_in (by omega) (by omega), show 0 + (32 * j + i - 32 * j) = i by omega]
/-- undo: the model's heap -/
def unF (g : dh_H) (b : Nat) : dh_H := dh_c (dh_s g 61 26 (nI (b - 1))) 69 68 (32 * (b - 1)) 0 32
/-- nothing but ward and past has changed -/
def fB (h h1 : dh_H) : Prop := ∀ a, ¬ (19 ≤ a ∧ a ≤ 26) → h1 a = h a
theorem d_recall {t b : Nat} (hC : C ≤ 6) (hD : D ≤ 6) (hA : PA h g C D t b) (hb : 0 < b) (k : ∀ h1, fB h h1 → PA h1 (unF g b) C D ((t + 19) % 20) (b - 1) → WV (wv h1) ((unF g b) 68) C D → Q none h1) : dh_C G mX4_recall [.ref 25, .ref 19] h Q := by
  obtain ⟨a1, a2, a3, a4, a5, a6⟩ := hA
  refine e_X4_recall ⟨fun _ => ⟨by decide, ?_⟩, fun q => absurd q (by rw [a3]; exact nI_ne0 hb (by omega))⟩
  rw [a1, a3, nI_add, pk_sub (by omega), pk_sub (by omega), pk_rem (by omega) (by decide) (by decide), pk_mul, show (t + 20 - 1) % 20 = (t + 19) % 20 by omega]
  refine d_loadFrom_26 (by omega) (fun h1 f hl => w_X4_recall_49 ?_)
  have e26 : ∀ i, h1 26 i = h 26 i := fun i => by rw [f 26 (by omega), dh_s_n (by decide), dh_s_n (by decide)]
  refine k h1 (fun a ha => ?_) ⟨?_, by omega, ?_, by omega, ?_, fun j hj => ?_⟩ ?_
  · rw [f a (by omega), dh_s_n (by omega), dh_s_n (by omega)]
  · rw [f 25 (by omega), dh_s_nk (by decide), dh_s_eq]
  · rw [f 25 (by omega), dh_s_eq]
  · show dh_c (dh_s g 61 26 (nI (b - 1))) 69 68 (32 * (b - 1)) 0 32 61 26 = _
    rw [dh_c_n (by decide), dh_s_eq]
  · refine WV_ext hC hD (a6 j (by omega)) (fun i hi => ?_) (fun i hi => ?_)
    · show h1 26 _ = h 26 _
      rw [e26, show ((t + 19) % 20 + 20 - (b - 1) + j) % 20 = (t + 20 - b + j) % 20 by omega]
    · rfl
  · refine WV_ext hC hD (a6 (b - 1) (by omega)) (fun i hi => ?_) (fun i hi => ?_)
    · rw [hl i hi, dh_s_n (by decide), dh_s_n (by decide), show (t + 20 - b + (b - 1)) % 20 = (t + 19) % 20 by omega]
    · show dh_c (dh_s g 61 26 (nI (b - 1))) 69 68 (32 * (b - 1)) 0 32 68 i = g 69 (32 * (b - 1) + i)
      rw [dh_c_i, pk_cpy_in (by omega) (by omega), dh_s_n (by decide), show 32 * (b - 1) + (i - 0) = 32 * (b - 1) + i by omega]
theorem c_undo {b : Nat} (hb : h 61 26 = nI b) (hb20 : b ≤ 20) (k1 : b = 0 → Q (some (.int (-1000000003))) h) (k2 : 0 < b → Q (some (.int (nI (b - 1)))) (unF h b)) : dh_C G mX10_undo [.ref 61] h Q := by
  refine e_X10_undo ⟨fun q => ?_, fun q => k1 ?_⟩
  · have hb0 : 0 < b := by
      rcases Nat.eq_zero_or_pos b with e | e
      · subst e
        exact absurd hb (fun z => q (z.trans nI_0))
      · exact e
    rw [hb, pk_sub (by omega), pk_mul]
    refine c_bring_69_68 (by omega) (by omega) (w_X10_undo_41 ?_)
    rw [dh_c_n (show 61 ≠ 68 by decide), dh_s_eq]
    exact k2 hb0
  · rw [hb, ← nI_0, nI_eq (by omega) (by decide)] at q
    exact q
theorem d_undo {t b : Nat} (hC : C ≤ 6) (hD : D ≤ 6) (hA : PA h g C D t b) (k1 : b = 0 → Q (some (.int (-1000000003))) h) (k2 : 0 < b → ∀ h1, fB h h1 → PA h1 (unF g b) C D ((t + 19) % 20) (b - 1) → WV (wv h1) ((unF g b) 68) C D → Q (some (.int (nI (b - 1)))) h1) : dh_C G mX9_undo [.ref 0] h Q := by
  have a3 := hA.2.2.1
  have a4 := hA.2.2.2.1
  refine e_X9_undo ⟨fun q => ?_, fun q => k1 ?_⟩
  · have hb0 : 0 < b := by
      rcases Nat.eq_zero_or_pos b with e | e
      · subst e
        exact absurd a3 (fun z => q (z.trans nI_0))
      · exact e
    refine d_recall hC hD hA hb0 (fun h1 f A W => w_X9_undo_24 ?_)
    rw [A.2.2.1]
    exact k2 hb0 h1 f A W
  · rw [a3, ← nI_0, nI_eq (by omega) (by decide)] at q
    exact q
theorem d_forget (k : Q none (dh_s (dh_s h 25 1 (nI 0)) 25 2 (nI 0))) : dh_C G mX4_forget [.ref 25] h Q := e_X4_forget k
end PS
