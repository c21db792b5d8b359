/-! the model's actions: gives, drops, draws, chance, drift -/
section MB
variable {G : dh_G} {h : dh_H} {C D : Nat} {Q : Option Value → dh_H → Prop}
def gv1 (n : Nat → Int32) (d c : Nat) : Nat → Int32 := upd (upd n (1 + c) (nI d)) 19 (n 19 &&& ((nI 1 <<< (nI d &&& 31)) ^^^ (-1)))
def gvF (h : dh_H) (C d c : Nat) : Nat → Int32 :=
  if tk h c d then upd (if (h 68 (26 + d) &&& stF (cold h) C = 0) ∨ ¬ h 68 (7 + c) = 0 then gv1 (h 68) d c else upd (gv1 (h 68) d c) (7 + c) (h 61 17)) (26 + d) (h 68 (26 + d) ||| (nI 1 <<< (nI c &&& 31)))
  else gv1 (h 68) d c
theorem gv1_n {n : Nat → Int32} {d c k : Nat} (h1 : k ≠ 1 + c) (h2 : k ≠ 19) : gv1 n d c k = n k := by
  unfold gv1
  rw [pk_un h2, pk_un h1]
theorem c_gives {d c : Nat} (hN : mN h C D) (hO : mO h C D) (hc : c < C) (hd : d < D) (k : Q (some (.int (bI (tk h c d)))) (hr h 68 (gvF h C d c))) : dh_C G mX10_gives [.ref 61, .int (nI d), .int (nI c)] h Q := by
  have hC := hN.2.1
  have hD := hN.2.2.2
  refine e_X10_gives ?_
  simp (disch := omega) only [nI_add, nI_clamp, dh_s_hr, hr_hr, hr_i]
  rw [pk_un (show 19 ≠ 1 + c by omega)]
  refine ⟨vp_in_nI (by omega) (by omega), ?_⟩
  show dh_C G mX10_takes _ (hr h 68 (gv1 (h 68) d c)) _
  refine c_takes (mN_hr _ hN) (mO_hr _ hO) hc hd ?_
  rw [tk_hr]
  refine w_X10_gives_35 ⟨fun q => ?_, fun q => ?_⟩
  · rw [bI_n0] at q
    simp (disch := omega) only [nI_add, nI_clamp]
    refine ⟨vp_in_nI (by omega) (by omega), c_coldOnes (mN_hr _ hN) ?_⟩
    rw [hr_i, gv1_n (by omega) (by omega)]
    have ec : stF (cold (hr h 68 (gv1 (h 68) d c))) C = stF (cold h) C := stF_congr (fun i hi => by unfold cold; rw [hr_i, gv1_n (by omega) (by omega)])
    rw [ec]
    refine w_X10_gives_53 ?_
    simp (disch := omega) only [nI_add, nI_clamp, dh_s_hr, hr_hr, hr_i]
    rw [gv1_n (k := 26 + d) (by omega) (by omega), gv1_n (k := 7 + c) (by omega) (by omega)]
    unfold gvF at k
    rw [q, if_pos rfl] at k
    refine ⟨fun q2 => ⟨vp_in_nI (by omega) (by omega), vp_in_nI (by omega) (by omega), ?_⟩, fun q2 => ⟨vp_in_nI (by omega) (by omega), fun q3 => ⟨vp_in_nI (by omega) (by omega), vp_in_nI (by omega) (by omega), ?_⟩, fun q3 => ⟨vp_in_nI (by omega) (by omega), vp_in_nI (by omega) (by omega), vp_in_nI (by omega) (by omega), ?_⟩⟩⟩
    · rw [if_pos (Or.inl q2)] at k
      exact k
    · rw [if_pos (Or.inr q3)] at k
      exact k
    · rw [if_neg (by intro e; rcases e with e | e; exact q2 e; exact e q3)] at k
      rw [pk_un (show 26 + d ≠ 7 + c by omega), gv1_n (by omega) (by omega)]
      exact k
  · rw [bI_0] at q
    unfold gvF at k
    rw [q, if_neg (by decide)] at k
    exact k
theorem gvF_has {d c : Nat} (hC : C ≤ 6) (hD : D ≤ 6) (hc : c < C) (hd : d < D) (hH : mH h C D) : mH (hr h 68 (gvF h C d c)) C D := by
  intro c' hc'
  rw [hr_i]
  have key : gvF h C d c (1 + c') = gv1 (h 68) d c (1 + c') := by
    unfold gvF
    by_cases q : tk h c d = true
    · rw [if_pos q, pk_un (by omega)]
      by_cases q2 : (h 68 (26 + d) &&& stF (cold h) C = 0) ∨ ¬ h 68 (7 + c) = 0
      · rw [if_pos q2]
      · rw [if_neg q2, pk_un (by omega)]
    · rw [if_neg q]
  rw [key]
  unfold gv1
  rw [pk_un (by omega)]
  by_cases e : c' = c
  · subst e
    rw [pk_us]
    exact Or.inr ⟨d, hd, rfl⟩
  · rw [pk_un (by omega)]
    exact hH c' hc'
def dpF (n : Nat → Int32) (d c : Nat) : Nat → Int32 := upd (upd n (1 + c) (-1)) 19 (n 19 ||| (nI 1 <<< (nI d &&& 31)))
theorem c_drops {d c : Nat} (hN : mN h C D) (hc : c < C) (hd : d < D) (hh : holder h C (nI d) = nI c) (k : Q none (hr h 68 (dpF (h 68) d c))) : dh_C G mX10_drops [.ref 61, .int (nI d)] h Q := by
  have hC := hN.2.1
  refine e_X10_drops (c_holderOf hN ?_)
  rw [hh]
  refine w_X10_drops_10 ?_
  simp (disch := omega) only [nI_add, nI_clamp, dh_s_hr, hr_hr, hr_i]
  rw [pk_un (show 19 ≠ 1 + c by omega)]
  exact ⟨vp_in_nI (by omega) (by omega), k⟩
theorem dpF_has {d c : Nat} (hC : C ≤ 6) (hc : c < C) (hH : mH h C D) : mH (hr h 68 (dpF (h 68) d c)) C D := by
  intro c' hc'
  rw [hr_i]
  unfold dpF
  rw [pk_un (by omega)]
  by_cases e : c' = c
  · subst e
    rw [pk_us]
    exact Or.inl rfl
  · rw [pk_un (by omega)]
    exact hH c' hc'
theorem laF_in {f : Nat → Bool} {n : Nat} (h : ¬ laF f n = -1) : ∃ c, c < n ∧ laF f n = nI c ∧ f c = true := by
  induction n with
  | zero => exact absurd rfl h
  | succ k ih =>
    by_cases e : f k = true
    · exact ⟨k, by omega, by simp [laF, e], e⟩
    · have e2 : laF f (k + 1) = laF f k := by simp [laF, e]
      rw [e2] at h ⊢
      obtain ⟨c, h1, h2, h3⟩ := ih h
      exact ⟨c, by omega, h2, h3⟩
/-- the next seed -/
def drS (s : Nat) : Nat := (s * 1103515245 + 12345) % 2147483648
theorem drS_lt (s : Nat) : drS s < 2 ^ 31 := Nat.mod_lt _ (by decide)
theorem drS_model {s : Nat} (hs : s < 2 ^ 31) : ((((nI s).toInt64 * (1103515245 : Int64)) + (12345 : Int64)) - (((nI s).toInt64 * (1103515245 : Int64)) + (12345 : Int64)) / (2147483648 : Int64) * (2147483648 : Int64)).toInt32 = nI (drS s) := by
  rw [nI_l hs, show (1103515245 : Int64) = lN 1103515245 from rfl, show (12345 : Int64) = lN 12345 from rfl, show (2147483648 : Int64) = lN 2147483648 from rfl, lN_mul, lN_add, pk_lRem (by omega) (by decide) (by decide), lN_i]
  rfl
theorem c_draw {s n : Nat} (hs : h 61 30 = nI s) (hs31 : s < 2 ^ 31) (hn : 0 < n) (hn31 : n < 2 ^ 31) (k : Q (some (.int (nI (drS s / 65536 % n)))) (dh_s h 61 30 (nI (drS s)))) : dh_C G mX10_draw [.ref 61, .int (nI n)] h Q := by
  refine e_X10_draw ?_
  rw [hs, drS_model hs31, pk_div (drS_lt s) (by decide) (by decide), pk_rem (Nat.lt_of_le_of_lt (Nat.div_le_self _ _) (drS_lt s)) hn hn31]
  exact ⟨by decide, by decide, nI_ne0 hn hn31, k⟩
def dr4 (s : Nat) : Nat := drS (drS (drS (drS s)))
/-- what comes ahead of an hour by draws -/
def chR (g : dh_H) (C d c w : Nat) : Nat → Int32 :=
  if w = 0 then (if holder g C (nI d) = -1 then g 68 else dpF (g 68) d (holder g C (nI d)).toNatClampNeg)
  else if w = 1 then upd (g 68) 19 (g 68 19 &&& ((nI 1 <<< (nI d &&& 31)) ^^^ (-1)))
  else if canB g C d c then gvF g C d c else g 68
def chF (g : dh_H) (C D s : Nat) : Nat → Int32 :=
  if g 61 18 ≤ nI (dr4 s / 65536 % 100) then chR g C (drS s / 65536 % D) (drS (drS s) / 65536 % C) (drS (drS (drS s)) / 65536 % 4)
  else upd (chR g C (drS s / 65536 % D) (drS (drS s) / 65536 % C) (drS (drS (drS s)) / 65536 % 4)) (7 + drS (drS s) / 65536 % C) (g 61 17)
theorem s30_hr (g : dh_H) (x : Int32) (f : Nat → Int32) : dh_s (hr g 68 f) 61 30 x = hr (dh_s g 61 30 x) 68 f := by
  funext a
  by_cases e1 : a = 61
  · subst e1; rfl
  · by_cases e2 : a = 68
    · subst e2; rfl
    · simp [dh_s, hr, e1, e2]
theorem s30_s30 (g : dh_H) (x y : Int32) : dh_s (dh_s g 61 30 x) 61 30 y = dh_s g 61 30 y := by
  funext a
  by_cases e1 : a = 61
  · subst e1
    funext k
    by_cases e : k = 30
    · subst e; rfl
    · rw [dh_s_nk e, dh_s_nk e, dh_s_nk e]
  · rw [dh_s_n e1, dh_s_n e1, dh_s_n e1]
theorem c_chance {s : Nat} (hN : mN h C D) (hO : mO h C D) (hC0 : 0 < C) (hD0 : 0 < D) (hs : h 61 30 = nI s) (hs31 : s < 2 ^ 31) (k : Q none (hr (dh_s h 61 30 (nI (dr4 s))) 68 (chF h C D s))) : dh_C G mX10_chance [.ref 61] h Q := by
  have hC := hN.2.1
  have hD := hN.2.2.2
  have hN' : ∀ x, mN (dh_s h 61 30 x) C D := fun _ => hN
  have hO' : ∀ x, mO (dh_s h 61 30 x) C D := fun _ => hO
  refine e_X10_chance ?_
  rw [hN.2.2.1]
  refine c_draw hs hs31 hD0 (by omega) (w_X10_chance_8 ?_)
  rw [show dh_s h 61 30 (nI (drS s)) 61 19 = h 61 19 from rfl, hN.1]
  refine c_draw (dh_s_eq _ _ _ _) (drS_lt s) hC0 (by omega) (w_X10_chance_17 ?_)
  rw [s30_s30]
  refine c_draw (dh_s_eq _ _ _ _) (drS_lt _) (by decide) (by decide) ?_
  rw [s30_s30]
  unfold chF at k
  have hd : drS s / 65536 % D < D := Nat.mod_lt _ hD0
  have hc : drS (drS s) / 65536 % C < C := Nat.mod_lt _ hC0
  have hw : drS (drS (drS s)) / 65536 % 4 < 4 := Nat.mod_lt _ (by decide)
  generalize drS s / 65536 % D = d at hd k ⊢
  generalize drS (drS s) / 65536 % C = c at hc k ⊢
  generalize drS (drS (drS s)) / 65536 % 4 = w at hw k ⊢
  have hs3 := drS_lt (drS (drS s))
  have e4 : dr4 s = drS (drS (drS (drS s))) := rfl
  generalize drS (drS (drS s)) = s3 at hs3 e4 ⊢
  -- the end: from any now row
  have fin : ∀ f : Nat → Int32, chR h C d c w = f → dh_C G mX10_draw [.ref 61, .int (nI 100)] (hr (dh_s h 61 30 (nI s3)) 68 f) (fun v h1 => dh_J G mX10_chance 95 [some (.ref 61), none, some (.int (nI c)), none] (v.toList ++ []) h1 Q) := by
    intro f ef
    rw [ef] at k
    refine c_draw (s := s3) rfl hs3 (by decide) (by decide) ?_
    rw [s30_hr, s30_s30, ← e4]
    refine w_X10_chance_95 ⟨fun q => ?_, fun q => ?_⟩
    · rw [show hr (dh_s h 61 30 (nI (dr4 s))) 68 f 61 18 = h 61 18 from rfl] at q
      rw [if_pos q] at k
      exact k
    · rw [show hr (dh_s h 61 30 (nI (dr4 s))) 68 f 61 18 = h 61 18 from rfl] at q
      rw [if_neg q] at k
      simp (disch := omega) only [nI_add, nI_clamp, dh_s_hr, hr_hr, hr_i]
      refine ⟨vp_in_nI (by omega) (by omega), ?_⟩
      exact k
  have e68 : hr (dh_s h 61 30 (nI s3)) 68 (h 68) = dh_s h 61 30 (nI s3) := hr_id (dh_s h 61 30 (nI s3)) 68
  refine w_X10_chance_23 ⟨fun q => ⟨fun q2 => ?_, fun q2 => ?_⟩, fun q => ?_⟩
  · have hw0 : ¬ w = 0 := fun e => q (by rw [e]; decide)
    have hw1 : ¬ w = 1 := fun e => q2 (by rw [e])
    refine c_canGive (hN' _) hc ?_
    rw [show canB (dh_s h 61 30 (nI s3)) C d c = canB h C d c from rfl]
    refine w_X10_chance_79 ⟨fun q3 => ?_, fun q3 => ?_⟩
    · rw [bI_0] at q3
      have := fin (h 68) (by unfold chR; rw [if_neg hw0, if_neg hw1, q3, if_neg (by decide)])
      rw [e68] at this
      exact this
    · rw [bI_n0] at q3
      refine c_gives (hN' _) (hO' _) hc hd (w_X10_chance_88 ?_)
      exact fin (gvF h C d c) (by unfold chR; rw [if_neg hw0, if_neg hw1, q3, if_pos rfl])
  · have hw1 : w = 1 := by
      rw [nI_eq (by omega) (by decide)] at q2
      exact q2
    rw [dh_s_hr]
    exact fin _ (by unfold chR; rw [if_neg (by omega), if_pos hw1]; rfl)
  · have hw0 : w = 0 := by
      rw [← nI_0, nI_eq (by omega) (by decide)] at q
      exact q
    refine c_holderOf (hN' _) ?_
    rw [show holder (dh_s h 61 30 (nI s3)) C (nI d) = holder h C (nI d) from rfl]
    refine w_X10_chance_33 ⟨fun q2 => ?_, fun q2 => ?_⟩
    · have := fin (h 68) (by unfold chR; rw [if_pos hw0, if_pos q2])
      rw [e68] at this
      exact this
    · obtain ⟨c', hc', e, -⟩ := laF_in q2
      have e : holder h C (nI d) = nI c' := e
      refine c_drops (hN' _) hc' hd e (w_X10_chance_42 ?_)
      exact fin (dpF (h 68) d c') (by unfold chR; rw [if_pos hw0, if_neg q2, e, nI_clamp (by omega)])
theorem chF_has {s : Nat} (hC : C ≤ 6) (hD : D ≤ 6) (hC0 : 0 < C) (hD0 : 0 < D) (hH : mH h C D) : ∀ c', c' < C → oI (chF h C D s (1 + c')) D := by
  intro c' hc'
  unfold chF
  have hd : drS s / 65536 % D < D := Nat.mod_lt _ hD0
  have hc : drS (drS s) / 65536 % C < C := Nat.mod_lt _ hC0
  generalize drS s / 65536 % D = d at hd ⊢
  generalize drS (drS s) / 65536 % C = c at hc ⊢
  generalize drS (drS (drS s)) / 65536 % 4 = w
  have key : oI (chR h C d c w (1 + c')) D := by
    unfold chR
    by_cases q : w = 0
    · rw [if_pos q]
      by_cases q2 : holder h C (nI d) = -1
      · rw [if_pos q2]
        exact hH c' hc'
      · rw [if_neg q2]
        obtain ⟨c2, hc2, e, -⟩ := laF_in q2
        have e : holder h C (nI d) = nI c2 := e
        rw [e, nI_clamp (by omega)]
        have := dpF_has (d := d) hC hc2 hH c' hc'
        rw [hr_i] at this
        exact this
    · rw [if_neg q]
      by_cases q2 : w = 1
      · rw [if_pos q2, pk_un (by omega)]
        exact hH c' hc'
      · rw [if_neg q2]
        by_cases q3 : canB h C d c = true
        · rw [if_pos q3]
          have := gvF_has hC hD hc hd hH c' hc'
          rw [hr_i] at this
          exact this
        · rw [if_neg q3]
          exact hH c' hc'
  by_cases q : h 61 18 ≤ nI (dr4 s / 65536 % 100)
  · rw [if_pos q]
    exact key
  · rw [if_neg q, pk_un (by omega)]
    exact key
/-- a drift: the heap and the seed behind t hours -/
def dfS (C D s : Nat) : Nat → Nat
  | 0 => s
  | t + 1 => if 0 < C ∧ 0 < D then dr4 (dfS C D s t) else dfS C D s t
def dfC (g : dh_H) (C D s : Nat) : dh_H := if 0 < C ∧ 0 < D then hr (dh_s g 61 30 (nI (dr4 s))) 68 (chF g C D s) else g
def dfT (g : dh_H) (C D s : Nat) : Nat → dh_H
  | 0 => g
  | t + 1 => hr (dfC (dfT g C D s t) C D (dfS C D s t)) 68 (goF (dfC (dfT g C D s t) C D (dfS C D s t)) C)
theorem dfS_lt {s : Nat} (hs : s < 2 ^ 31) (t : Nat) : dfS C D s t < 2 ^ 31 := by
  induction t with
  | zero => exact hs
  | succ t ih =>
    show (if 0 < C ∧ 0 < D then dr4 (dfS C D s t) else dfS C D s t) < 2 ^ 31
    by_cases q : 0 < C ∧ 0 < D
    · rw [if_pos q]; exact drS_lt _
    · rw [if_neg q]; exact ih
theorem dfC_ok {s : Nat} (hN : mN h C D) (hO : mO h C D) (hH : mH h C D) (hs : h 61 30 = nI s) : mN (dfC h C D s) C D ∧ mO (dfC h C D s) C D ∧ mH (dfC h C D s) C D ∧ dfC h C D s 61 30 = nI (if 0 < C ∧ 0 < D then dr4 s else s) := by
  unfold dfC
  by_cases q : 0 < C ∧ 0 < D
  · rw [if_pos q, if_pos q]
    refine ⟨hN, hO, fun c hc => ?_, rfl⟩
    rw [hr_i]
    exact chF_has hN.2.1 hN.2.2.2 q.1 q.2 hH c hc
  · rw [if_neg q, if_neg q]
    exact ⟨hN, hO, hH, hs⟩
theorem dfT_ok {s : Nat} (hN : mN h C D) (hO : mO h C D) (hH : mH h C D) (hs : h 61 30 = nI s) (t : Nat) : mN (dfT h C D s t) C D ∧ mO (dfT h C D s t) C D ∧ mH (dfT h C D s t) C D ∧ dfT h C D s t 61 30 = nI (dfS C D s t) := by
  induction t with
  | zero => exact ⟨hN, hO, hH, hs⟩
  | succ t ih =>
    obtain ⟨i1, i2, i3, i4⟩ := ih
    obtain ⟨j1, j2, j3, j4⟩ := dfC_ok i1 i2 i3 i4
    exact ⟨mN_hr _ j1, mO_hr _ j2, mH_go hN.2.1 j3, j4⟩
theorem c_drift {x : Int32} {b s : Nat} (hN : mN h C D) (hO : mO h C D) (hH : mH h C D) (hb : h 61 26 = nI b) (hb20 : b ≤ 20) (hs : h 61 30 = nI s) (hs31 : s < 2 ^ 31)
    (k1 : ¬ noH h x = 0 → Q (some (.int (noH h x))) h) (k2 : ∀ t, 1 ≤ t → t ≤ 60 → x = nI t → noH h x = 0 → Q (some (.int (stF (calm (dfT (nt h b) C D s t)) C))) (dfT (nt h b) C D s t)) : dh_C G mX10_drift [.ref 61, .int x] h Q := by
  refine e_X10_drift (c_noHours (w_X10_drift_5 ⟨fun q => ?_, fun q => c_noHours (w_X10_drift_13 (k1 q))⟩))
  obtain ⟨t, h1, h2, rfl⟩ := noH_0 q
  have k := k2 t h1 h2 rfl q
  refine c_note hb hb20 (w_X10_drift_18 ?_)
  have hN' : mN (nt h b) C D := by
    refine ⟨?_, hN.2.1, ?_, hN.2.2.2⟩
    · rw [nt_61 (by decide)]; exact hN.1
    · rw [nt_61 (by decide)]; exact hN.2.2.1
  have hO' : mO (nt h b) C D := fun c hc => by rw [nt_n (by decide) (by decide)]; exact hO c hc
  have hH' : mH (nt h b) C D := fun c hc => by rw [nt_n (by decide) (by decide)]; exact hH c hc
  have hs' : nt h b 61 30 = nI s := by rw [nt_61 (by decide)]; exact hs
  have ok := dfT_ok hN' hO' hH' hs'
  refine dh_up (P := fun i => dh_J G mX10_drift 20 [some (.ref 61), some (.int (nI t)), some (.int (nI i))] [] (dfT (nt h b) C D s i) Q) t ?_ ?_ 0 (by omega)
  · obtain ⟨g1, g2, g3, -⟩ := ok t
    exact w_X10_drift_20 ⟨fun _ => c_calmOnes g1 g2 g3 (w_X10_drift_57 k), fun q => absurd (Int32.le_refl _) q⟩
  · intro i hi ih
    have ih : dh_J G mX10_drift 20 [some (.ref 61), some (.int (nI t)), some (.int (nI (i + 1)))] [] (hr (dfC (dfT (nt h b) C D s i) C D (dfS C D s i)) 68 (goF (dfC (dfT (nt h b) C D s i) C D (dfS C D s i)) C)) Q := ih
    obtain ⟨g1, g2, g3, g4⟩ := ok i
    have hsl := dfS_lt (C := C) (D := D) hs31 i
    obtain ⟨j1, j2, j3, -⟩ := dfC_ok g1 g2 g3 g4
    generalize dfT (nt h b) C D s i = g at g1 g2 g3 g4 j1 j2 j3 ih ⊢
    generalize dfS C D s i = s' at g4 j1 j2 j3 ih hsl ⊢
    have next : dh_J G mX10_drift 43 [some (.ref 61), some (.int (nI t)), some (.int (nI i))] [] (dfC g C D s') Q := by
      refine w_X10_drift_43 (c_goBy j1 j2 j3 (w_X10_drift_47 ?_))
      rw [nI_add]
      exact ih
    refine w_X10_drift_20 ⟨fun q => ?_, fun q => ?_⟩
    · rw [nI_leI (by omega) (by omega)] at q
      omega
    · rw [g1.1, g1.2.2.1]
      refine ⟨fun q2 => ?_, fun q2 => ⟨fun q3 => ?_, fun q3 => ?_⟩⟩
      · have hC := g1.2.1
        rw [← nI_0, nI_leI (by omega) (by decide)] at q2
        rw [show dfC g C D s' = g by unfold dfC; rw [if_neg (by omega)]] at next
        exact next
      · have hD := g1.2.2.2
        rw [← nI_0, nI_leI (by omega) (by decide)] at q3
        rw [show dfC g C D s' = g by unfold dfC; rw [if_neg (by omega)]] at next
        exact next
      · have hC := g1.2.1
        have hD := g1.2.2.2
        rw [← nI_0, nI_leI (by omega) (by decide)] at q2 q3
        refine c_chance g1 g2 (by omega) (by omega) g4 hsl ?_
        rw [show dfC g C D s' = hr (dh_s g 61 30 (nI (dr4 s'))) 68 (chF g C D s') by unfold dfC; rw [if_pos ⟨by omega, by omega⟩]] at next
        exact next
end MB
