/-! the model's actions, as functions of the heap -/
section MA
variable {G : dh_G} {h : dh_H} {C D : Nat} {Q : Option Value → dh_H → Prop}
theorem dh_c_0 (h : dh_H) (a b i j : Nat) : dh_c h a b i j 0 = h := by
  funext q
  by_cases e : q = b
  · subst e
    rw [dh_c_i]
    funext p
    exact pk_cpy_out (by omega)
  · exact dh_c_n e
theorem dh_c_step (h : dh_H) {a b i j : Nat} (hab : a ≠ b ∨ j ≤ i) (t : Nat) : dh_s (dh_c h a b i j t) b (j + t) (dh_c h a b i j t a (i + t)) = dh_c h a b i j (t + 1) := by
  have hv : dh_c h a b i j t a (i + t) = h a (i + t) := by
    by_cases e : a = b
    · subst e
      rw [dh_c_i]
      exact pk_cpy_out (by rcases hab with q | q; exact absurd rfl q; omega)
    · rw [dh_c_n e]
  rw [hv]
  funext q
  by_cases e : q = b
  · subst e
    rw [dh_s_i, dh_c_i, dh_c_i]
    funext p
    by_cases e2 : p = j + t
    · subst e2
      rw [pk_us, pk_cpy_in (by omega) (by omega), show i + (j + t - j) = i + t by omega]
    · rw [pk_un e2]
      by_cases e3 : j ≤ p ∧ p < j + t
      · rw [pk_cpy_in e3.1 e3.2, pk_cpy_in e3.1 (by omega)]
      · rw [pk_cpy_out (by omega), pk_cpy_out (by omega)]
  · rw [dh_s_n e, dh_c_n e, dh_c_n e]
theorem c_bring_63_65 {i j n : Nat} (h1 : i + n ≤ 12) (h2 : j + n ≤ 12) (k : Q none (dh_c h 63 65 i j n)) : dh_C G mX10_bring [.ref 63, .int (nI i), .ref 65, .int (nI j), .int (nI n)] h Q := by
  refine e_X10_bring_63_65 ?_
  have key := dh_up (P := fun t => dh_J G mX10_bring 3 [some (.ref 63), some (.int (nI i)), some (.ref 65), some (.int (nI j)), some (.int (nI n)), some (.int (nI t))] [] (dh_c h 63 65 i j t) Q) n ?_ ?_ 0 (by omega)
  · rw [dh_c_0] at key
    exact key
  · exact w_X10_bring_63_65_3 ⟨fun _ => k, fun q => absurd (Int32.le_refl _) q⟩
  · intro t ht ih
    refine w_X10_bring_63_65_3 ?_
    simp (disch := omega) only [nI_leI, nI_add, nI_clamp]
    refine ⟨fun q => by omega, fun q => ⟨vp_in_nI (by omega) (by omega), vp_in_nI (by omega) (by omega), ?_⟩⟩
    rw [dh_c_step h (Or.inl (by decide)) t]
    exact ih
theorem c_bring_64_66 {i j n : Nat} (h1 : i + n ≤ 24) (h2 : j + n ≤ 24) (k : Q none (dh_c h 64 66 i j n)) : dh_C G mX10_bring [.ref 64, .int (nI i), .ref 66, .int (nI j), .int (nI n)] h Q := by
  refine e_X10_bring_64_66 ?_
  have key := dh_up (P := fun t => dh_J G mX10_bring 3 [some (.ref 64), some (.int (nI i)), some (.ref 66), some (.int (nI j)), some (.int (nI n)), some (.int (nI t))] [] (dh_c h 64 66 i j t) Q) n ?_ ?_ 0 (by omega)
  · rw [dh_c_0] at key
    exact key
  · exact w_X10_bring_64_66_3 ⟨fun _ => k, fun q => absurd (Int32.le_refl _) q⟩
  · intro t ht ih
    refine w_X10_bring_64_66_3 ?_
    simp (disch := omega) only [nI_leI, nI_add, nI_clamp]
    refine ⟨fun q => by omega, fun q => ⟨vp_in_nI (by omega) (by omega), vp_in_nI (by omega) (by omega), ?_⟩⟩
    rw [dh_c_step h (Or.inl (by decide)) t]
    exact ih
theorem c_bring_69_69 {i j n : Nat} (h1 : i + n ≤ 640) (h2 : j + n ≤ 640) (hij : j ≤ i) (k : Q none (dh_c h 69 69 i j n)) : dh_C G mX10_bring [.ref 69, .int (nI i), .ref 69, .int (nI j), .int (nI n)] h Q := by
  refine e_X10_bring_69_69 ?_
  have key := dh_up (P := fun t => dh_J G mX10_bring 3 [some (.ref 69), some (.int (nI i)), some (.ref 69), some (.int (nI j)), some (.int (nI n)), some (.int (nI t))] [] (dh_c h 69 69 i j t) Q) n ?_ ?_ 0 (by omega)
  · rw [dh_c_0] at key
    exact key
  · exact w_X10_bring_69_69_3 ⟨fun _ => k, fun q => absurd (Int32.le_refl _) q⟩
  · intro t ht ih
    refine w_X10_bring_69_69_3 ?_
    simp (disch := omega) only [nI_leI, nI_add, nI_clamp]
    refine ⟨fun q => by omega, fun q => ⟨vp_in_nI (by omega) (by omega), vp_in_nI (by omega) (by omega), ?_⟩⟩
    rw [dh_c_step h (Or.inr hij) t]
    exact ih
theorem c_bring_68_69 {i j n : Nat} (h1 : i + n ≤ 32) (h2 : j + n ≤ 640) (k : Q none (dh_c h 68 69 i j n)) : dh_C G mX10_bring [.ref 68, .int (nI i), .ref 69, .int (nI j), .int (nI n)] h Q := by
  refine e_X10_bring_68_69 ?_
  have key := dh_up (P := fun t => dh_J G mX10_bring 3 [some (.ref 68), some (.int (nI i)), some (.ref 69), some (.int (nI j)), some (.int (nI n)), some (.int (nI t))] [] (dh_c h 68 69 i j t) Q) n ?_ ?_ 0 (by omega)
  · rw [dh_c_0] at key
    exact key
  · exact w_X10_bring_68_69_3 ⟨fun _ => k, fun q => absurd (Int32.le_refl _) q⟩
  · intro t ht ih
    refine w_X10_bring_68_69_3 ?_
    simp (disch := omega) only [nI_leI, nI_add, nI_clamp]
    refine ⟨fun q => by omega, fun q => ⟨vp_in_nI (by omega) (by omega), vp_in_nI (by omega) (by omega), ?_⟩⟩
    rw [dh_c_step h (Or.inl (by decide)) t]
    exact ih
theorem c_bring_69_68 {i j n : Nat} (h1 : i + n ≤ 640) (h2 : j + n ≤ 32) (k : Q none (dh_c h 69 68 i j n)) : dh_C G mX10_bring [.ref 69, .int (nI i), .ref 68, .int (nI j), .int (nI n)] h Q := by
  refine e_X10_bring_69_68 ?_
  have key := dh_up (P := fun t => dh_J G mX10_bring 3 [some (.ref 69), some (.int (nI i)), some (.ref 68), some (.int (nI j)), some (.int (nI n)), some (.int (nI t))] [] (dh_c h 69 68 i j t) Q) n ?_ ?_ 0 (by omega)
  · rw [dh_c_0] at key
    exact key
  · exact w_X10_bring_69_68_3 ⟨fun _ => k, fun q => absurd (Int32.le_refl _) q⟩
  · intro t ht ih
    refine w_X10_bring_69_68_3 ?_
    simp (disch := omega) only [nI_leI, nI_add, nI_clamp]
    refine ⟨fun q => by omega, fun q => ⟨vp_in_nI (by omega) (by omega), vp_in_nI (by omega) (by omega), ?_⟩⟩
    rw [dh_c_step h (Or.inl (by decide)) t]
    exact ih
theorem c_bring_75_76 {i j n : Nat} (h1 : i + n ≤ 6) (h2 : j + n ≤ 6) (k : Q none (dh_c h 75 76 i j n)) : dh_C G mX10_bring [.ref 75, .int (nI i), .ref 76, .int (nI j), .int (nI n)] h Q := by
  refine e_X10_bring_75_76 ?_
  have key := dh_up (P := fun t => dh_J G mX10_bring 3 [some (.ref 75), some (.int (nI i)), some (.ref 76), some (.int (nI j)), some (.int (nI n)), some (.int (nI t))] [] (dh_c h 75 76 i j t) Q) n ?_ ?_ 0 (by omega)
  · rw [dh_c_0] at key
    exact key
  · exact w_X10_bring_75_76_3 ⟨fun _ => k, fun q => absurd (Int32.le_refl _) q⟩
  · intro t ht ih
    refine w_X10_bring_75_76_3 ?_
    simp (disch := omega) only [nI_leI, nI_add, nI_clamp]
    refine ⟨fun q => by omega, fun q => ⟨vp_in_nI (by omega) (by omega), vp_in_nI (by omega) (by omega), ?_⟩⟩
    rw [dh_c_step h (Or.inl (by decide)) t]
    exact ih
theorem c_bring_68_70 {i j n : Nat} (h1 : i + n ≤ 32) (h2 : j + n ≤ 64) (k : Q none (dh_c h 68 70 i j n)) : dh_C G mX10_bring [.ref 68, .int (nI i), .ref 70, .int (nI j), .int (nI n)] h Q := by
  refine e_X10_bring_68_70 ?_
  have key := dh_up (P := fun t => dh_J G mX10_bring 3 [some (.ref 68), some (.int (nI i)), some (.ref 70), some (.int (nI j)), some (.int (nI n)), some (.int (nI t))] [] (dh_c h 68 70 i j t) Q) n ?_ ?_ 0 (by omega)
  · rw [dh_c_0] at key
    exact key
  · exact w_X10_bring_68_70_3 ⟨fun _ => k, fun q => absurd (Int32.le_refl _) q⟩
  · intro t ht ih
    refine w_X10_bring_68_70_3 ?_
    simp (disch := omega) only [nI_leI, nI_add, nI_clamp]
    refine ⟨fun q => by omega, fun q => ⟨vp_in_nI (by omega) (by omega), vp_in_nI (by omega) (by omega), ?_⟩⟩
    rw [dh_c_step h (Or.inl (by decide)) t]
    exact ih
theorem c_bring_70_68 {i j n : Nat} (h1 : i + n ≤ 64) (h2 : j + n ≤ 32) (k : Q none (dh_c h 70 68 i j n)) : dh_C G mX10_bring [.ref 70, .int (nI i), .ref 68, .int (nI j), .int (nI n)] h Q := by
  refine e_X10_bring_70_68 ?_
  have key := dh_up (P := fun t => dh_J G mX10_bring 3 [some (.ref 70), some (.int (nI i)), some (.ref 68), some (.int (nI j)), some (.int (nI n)), some (.int (nI t))] [] (dh_c h 70 68 i j t) Q) n ?_ ?_ 0 (by omega)
  · rw [dh_c_0] at key
    exact key
  · exact w_X10_bring_70_68_3 ⟨fun _ => k, fun q => absurd (Int32.le_refl _) q⟩
  · intro t ht ih
    refine w_X10_bring_70_68_3 ?_
    simp (disch := omega) only [nI_leI, nI_add, nI_clamp]
    refine ⟨fun q => by omega, fun q => ⟨vp_in_nI (by omega) (by omega), vp_in_nI (by omega) (by omega), ?_⟩⟩
    rw [dh_c_step h (Or.inl (by decide)) t]
    exact ih
/-- what note() makes of the heap, with b states kept -/
def nt (h : dh_H) (b : Nat) : dh_H := if b = 20 then dh_s (dh_c (dh_s (dh_c h 69 69 32 0 608) 61 26 (nI 19)) 68 69 0 608 32) 61 26 (nI 20) else dh_s (dh_c h 68 69 0 (32 * b) 32) 61 26 (nI (b + 1))
theorem c_note {b : Nat} (hb : h 61 26 = nI b) (hb20 : b ≤ 20) (k : Q none (nt h b)) : dh_C G mX10_note [.ref 61] h Q := by
  refine e_X10_note ⟨fun q => ?_, fun q => ?_⟩
  · have hb' : ¬ b = 20 := fun e => q (by rw [hb, e])
    rw [hb, pk_mul]
    refine c_bring_68_69 (by omega) (by omega) (w_X10_note_57 ?_)
    rw [dh_c_n (show 61 ≠ 69 by decide), hb, nI_add]
    unfold nt at k
    rw [if_neg hb'] at k
    exact k
  · have hb' : b = 20 := by
      rw [hb, nI_eq (by omega) (by decide)] at q
      exact q
    subst hb'
    refine c_bring_69_69 (by omega) (by omega) (by omega) (w_X10_note_26 ?_)
    rw [dh_c_n (show 61 ≠ 69 by decide), hb, show nI 20 - nI 1 = nI 19 by decide, pk_mul]
    refine c_bring_68_69 (by omega) (by omega) (w_X10_note_57 ?_)
    rw [dh_c_n (show 61 ≠ 69 by decide), dh_s_eq, nI_add]
    unfold nt at k
    rw [if_pos rfl] at k
    exact k
theorem nt_n {b a : Nat} (h1 : a ≠ 61) (h2 : a ≠ 69) : nt h b a = h a := by
  unfold nt
  by_cases e : b = 20
  · rw [if_pos e, dh_s_n h1, dh_c_n h2, dh_s_n h1, dh_c_n h2]
  · rw [if_neg e, dh_s_n h1, dh_c_n h2]
theorem nt_61 {b k : Nat} (hk : k ≠ 26) : nt h b 61 k = h 61 k := by
  unfold nt
  by_cases e : b = 20
  · rw [if_pos e, dh_s_nk hk, dh_c_n (by decide), dh_s_nk hk, dh_c_n (by decide)]
  · rw [if_neg e, dh_s_nk hk, dh_c_n (by decide)]
theorem nt_26 {b : Nat} (hb : b ≤ 20) : nt h b 61 26 = nI (if b = 20 then 20 else b + 1) := by
  unfold nt
  by_cases e : b = 20
  · rw [if_pos e, if_pos e, dh_s_eq]
  · rw [if_neg e, if_neg e, dh_s_eq]
/-- the rows that say who takes what -/
theorem tk_hr (f : Nat → Int32) (c d : Nat) : tk (hr h 68 f) c d = tk h c d := rfl
theorem tkB_hr (f : Nat → Int32) (c d : Nat) (m : Int32) : tkB (hr h 68 f) c d m = tkB h c d m := rfl
theorem mN_hr (f : Nat → Int32) (hN : mN h C D) : mN (hr h 68 f) C D := hN
theorem mO_hr (f : Nat → Int32) (hO : mO h C D) : mO (hr h 68 f) C D := hO
/-- an hour goes by: after i children -/
def goR (s : Int32) (n : Nat → Int32) : Nat → Nat → Int32
  | 0 => n
  | i + 1 =>
    let m := upd (goR s n i) (13 + i) (goR s n i (13 + i) + (if hasB s (nI i) then nI 0 else nI 1))
    upd m (7 + i) (m (7 + i) - (if m (7 + i) ≤ 0 then nI 0 else nI 1))
def goF (h : dh_H) (C : Nat) : Nat → Int32 := upd (goR (stF (calm h) C) (h 68) C) 0 (goR (stF (calm h) C) (h 68) C 0 + nI 1)
theorem c_goBy (hN : mN h C D) (hO : mO h C D) (hH : mH h C D) (k : Q none (hr h 68 (goF h C))) : dh_C G mX10_goBy [.ref 61] h Q := by
  have hN' := hN
  obtain ⟨eC, hC, -, hD⟩ := hN'
  refine e_X10_goBy (c_calmOnes hN hO hH (w_X10_goBy_4 ?_))
  have key := dh_up (P := fun i => dh_J G mX10_goBy 7 [some (.ref 61), some (.int (stF (calm h) C)), some (.int (nI i))] [] (hr h 68 (goR (stF (calm h) C) (h 68) i)) Q) C ?_ ?_ 0 (by omega)
  · have e : hr h 68 (goR (stF (calm h) C) (h 68) 0) = h := hr_id h 68
    rw [e] at key
    exact key
  · refine w_X10_goBy_7 ⟨fun _ => ?_, fun q => absurd (Int32.le_refl _) (by rw [show hr h 68 (goR (stF (calm h) C) (h 68) C) 61 19 = h 61 19 from rfl, eC] at q; exact q)⟩
    rw [dh_s_hr, hr_hr, hr_i]
    exact k
  · intro i hi ih
    generalize hs : stF (calm h) C = s at ih ⊢
    have ih' : dh_J G mX10_goBy 7 [some (.ref 61), some (.int s), some (.int (nI (i + 1)))] [] (hr h 68 (upd (upd (goR s (h 68) i) (13 + i) (goR s (h 68) i (13 + i) + (if hasB s (nI i) then nI 0 else nI 1))) (7 + i) (upd (goR s (h 68) i) (13 + i) (goR s (h 68) i (13 + i) + (if hasB s (nI i) then nI 0 else nI 1)) (7 + i) - (if upd (goR s (h 68) i) (13 + i) (goR s (h 68) i (13 + i) + (if hasB s (nI i) then nI 0 else nI 1)) (7 + i) ≤ 0 then nI 0 else nI 1)))) Q := ih
    generalize goR s (h 68) i = m at ih' ⊢
    refine w_X10_goBy_7 ⟨fun q => ?_, fun q => ?_⟩
    · rw [show hr h 68 m 61 19 = h 61 19 from rfl, eC, nI_leI (by omega) (by omega)] at q
      omega
    · simp (disch := omega) only [nI_add, nI_clamp]
      refine ⟨vp_in_nI (by omega) (by omega), c_has ?_⟩
      rw [hr_i]
      refine w_X10_goBy_30 ?_
      simp (disch := omega) only [nI_add, nI_clamp, dh_s_hr, hr_hr, hr_i]
      refine ⟨fun q2 => ⟨vp_in_nI (by omega) (by omega), vp_in_nI (by omega) (by omega), vp_in_nI (by omega) (by omega), fun q3 => ⟨vp_in_nI (by omega) (by omega), ?_⟩, fun q3 => ⟨vp_in_nI (by omega) (by omega), ?_⟩⟩, fun q2 => ⟨vp_in_nI (by omega) (by omega), vp_in_nI (by omega) (by omega), vp_in_nI (by omega) (by omega), fun q3 => ⟨vp_in_nI (by omega) (by omega), ?_⟩, fun q3 => ⟨vp_in_nI (by omega) (by omega), ?_⟩⟩⟩
      · rw [bI_0] at q2
        rw [q2, if_neg (by decide), if_pos q3] at ih'
        exact ih'
      · rw [bI_0] at q2
        rw [q2, if_neg (by decide), if_neg q3] at ih'
        exact ih'
      · rw [bI_n0] at q2
        rw [q2, if_pos rfl, if_pos q3] at ih'
        exact ih'
      · rw [bI_n0] at q2
        rw [q2, if_pos rfl, if_neg q3] at ih'
        exact ih'
theorem goR_has (s : Int32) (n : Nat → Int32) (i : Nat) : ∀ k, k ≤ 6 → goR s n i k = n k := by
  induction i with
  | zero => intro k _; rfl
  | succ i ih =>
    intro k hk
    show upd (upd (goR s n i) (13 + i) _) (7 + i) _ k = n k
    rw [pk_un (by omega), pk_un (by omega)]
    exact ih k hk
theorem goF_has (h : dh_H) (C : Nat) {k : Nat} (h1 : 1 ≤ k) (h2 : k ≤ 6) : goF h C k = h 68 k := by
  unfold goF
  rw [pk_un (by omega), goR_has _ _ _ k h2]
theorem mH_go (hC : C ≤ 6) (hH : mH h C D) : mH (hr h 68 (goF h C)) C D := by
  intro c hc
  rw [hr_i, goF_has h C (by omega) (by omega)]
  exact hH c hc
/-- t hours go by -/
def goT (h : dh_H) (C : Nat) : Nat → dh_H
  | 0 => h
  | t + 1 => hr (goT h C t) 68 (goF (goT h C t) C)
theorem goT_n (h : dh_H) (C t : Nat) {a : Nat} (ha : a ≠ 68) : goT h C t a = h a := by
  induction t with
  | zero => rfl
  | succ t ih => rw [show goT h C (t + 1) = hr (goT h C t) 68 (goF (goT h C t) C) from rfl, hr_n ha, ih]
theorem goT_ok (hN : mN h C D) (hO : mO h C D) (hH : mH h C D) (t : Nat) : mN (goT h C t) C D ∧ mO (goT h C t) C D ∧ mH (goT h C t) C D := by
  induction t with
  | zero => exact ⟨hN, hO, hH⟩
  | succ t ih => exact ⟨mN_hr _ ih.1, mO_hr _ ih.2.1, mH_go hN.2.1 ih.2.2⟩
def noH (h : dh_H) (x : Int32) : Int32 := if inB x (nI 1) (nI 60) then (if h 61 16 = 0 then -1000000003 else if h 68 0 ≤ nI 9000 then nI 0 else -1000000004) else -1000000002
theorem c_noHours {x : Int32} (k : Q (some (.int (noH h x))) h) : dh_C G mX10_noHours [.ref 61, .int x] h Q := by
  refine e_X10_noHours (c_in (w_X10_noHours_7 ⟨fun q => ⟨fun q2 => ⟨fun q3 => ?_, fun q3 => ?_⟩, fun q2 => ?_⟩, fun q => ?_⟩))
  · rw [bI_n0] at q
    unfold noH at k
    rw [if_pos q, if_neg q2, if_pos q3] at k
    exact k
  · rw [bI_n0] at q
    unfold noH at k
    rw [if_pos q, if_neg q2, if_neg q3] at k
    exact k
  · rw [bI_n0] at q
    unfold noH at k
    rw [if_pos q, if_pos q2] at k
    exact k
  · rw [bI_0] at q
    unfold noH at k
    rw [q, if_neg (by decide)] at k
    exact k
theorem noH_0 {h : dh_H} {x : Int32} (e : noH h x = 0) : ∃ t, 1 ≤ t ∧ t ≤ 60 ∧ x = nI t := by
  unfold noH at e
  by_cases q : inB x (nI 1) (nI 60) = true
  · exact (inB_nat x (by decide) (by decide)).mp q
  · rw [if_neg q] at e
    exact absurd e (by decide)
theorem c_hour {x : Int32} {b : Nat} (hN : mN h C D) (hO : mO h C D) (hH : mH h C D) (hb : h 61 26 = nI b) (hb20 : b ≤ 20)
    (k1 : ¬ noH h x = 0 → Q (some (.int (noH h x))) h) (k2 : ∀ t, 1 ≤ t → t ≤ 60 → x = nI t → noH h x = 0 → Q (some (.int (goT (nt h b) C t 68 0))) (goT (nt h b) C t)) : dh_C G mX10_hour [.ref 61, .int x] h Q := by
  refine e_X10_hour (c_noHours (w_X10_hour_5 ⟨fun q => ?_, fun q => c_noHours (w_X10_hour_13 (k1 q))⟩))
  obtain ⟨t, h1, h2, rfl⟩ := noH_0 q
  have k := k2 t h1 h2 rfl q
  refine c_note hb hb20 (w_X10_hour_18 ?_)
  have hN' : mN (nt h b) C D := by
    refine ⟨?_, hN.2.1, ?_, hN.2.2.2⟩
    · rw [nt_61 (by decide)]; exact hN.1
    · rw [nt_61 (by decide)]; exact hN.2.2.1
  have hO' : mO (nt h b) C D := fun c hc => by rw [nt_n (by decide) (by decide)]; exact hO c hc
  have hH' : mH (nt h b) C D := fun c hc => by rw [nt_n (by decide) (by decide)]; exact hH c hc
  refine dh_up (P := fun i => dh_J G mX10_hour 20 [some (.ref 61), some (.int (nI t)), some (.int (nI i))] [] (goT (nt h b) C i) Q) t ?_ ?_ 0 (by omega)
  · exact w_X10_hour_20 ⟨fun _ => k, fun q => absurd (Int32.le_refl _) q⟩
  · intro i hi ih
    refine w_X10_hour_20 ?_
    simp (disch := omega) only [nI_leI]
    refine ⟨fun q => by omega, fun q => ?_⟩
    obtain ⟨g1, g2, g3⟩ := goT_ok hN' hO' hH' i
    refine c_goBy g1 g2 g3 (w_X10_hour_29 ?_)
    rw [nI_add]
    exact ih
end MA
