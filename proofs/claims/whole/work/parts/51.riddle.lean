/-! the class's answers out of the riddle; the model's owners -/
def mx2 (y all : Nat) : Nat := if y < all - y then all - y else y
/-- the best question among the first k -/
def bqF (C D all : Nat) (y : Nat → Nat) : Nat → Int32 × Nat
  | 0 => (-1, all)
  | k + 1 => if k / 6 < C ∧ k % 6 < D then (if (bqF C D all y k).2 ≤ mx2 (y k) all then bqF C D all y k else (nI (10 * (k / 6) + k % 6), mx2 (y k) all)) else bqF C D all y k
theorem bqF_s (C D all : Nat) (y : Nat → Nat) (k : Nat) : bqF C D all y (k + 1) = if k / 6 < C ∧ k % 6 < D then (if (bqF C D all y k).2 ≤ mx2 (y k) all then bqF C D all y k else (nI (10 * (k / 6) + k % 6), mx2 (y k) all)) else bqF C D all y k := rfl
theorem bqF_le (C D all : Nat) (y : Nat → Nat) (k : Nat) : (bqF C D all y k).2 ≤ all := by
  induction k with
  | zero => exact Nat.le_refl _
  | succ k ih =>
    unfold bqF
    split
    · split
      · exact ih
      · dsimp only
        omega
    · exact ih
theorem bqF_sk {C D all : Nat} {y : Nat → Nat} {k n : Nat} (hkn : k ≤ n) (h : ∀ j, k ≤ j → j < n → ¬ (j / 6 < C ∧ j % 6 < D)) : bqF C D all y n = bqF C D all y k := by
  induction n with
  | zero => rw [show k = 0 by omega]
  | succ n ih =>
    by_cases e : k = n + 1
    · rw [e]
    · show (if n / 6 < C ∧ n % 6 < D then _ else _) = _
      rw [if_neg (h n (by omega) (by omega))]
      exact ih (by omega) (fun j h1 h2 => h j h1 (by omega))
theorem bqF_cg {C D all : Nat} {y y' : Nat → Nat} (h : ∀ k, k / 6 < C → k % 6 < D → y k = y' k) (k : Nat) : bqF C D all y k = bqF C D all y' k := by
  induction k with
  | zero => rfl
  | succ k ih =>
    unfold bqF
    rw [ih]
    by_cases q : k / 6 < C ∧ k % 6 < D
    · rw [if_pos q, if_pos q, h k q.1 q.2]
    · rw [if_neg q, if_neg q]
theorem pw6 {D k : Nat} (hD : D ≤ 6) (hk : k ≤ 6) : D ^ k ≤ 46656 := Nat.le_trans (Nat.pow_le_pow_left hD k) (Nat.pow_le_pow_right (n := 6) (by decide) hk)
section CQ
variable {G : dh_G} {h g : dh_H} {C D T : Nat} {Q : Option Value → dh_H → Prop} {ok : Nat → Nat → Bool}
theorem tW_le (c e : Nat) : tW ok D C c e ≤ D ^ C := nW_le _ _ _
theorem d_sureDummyOf {c : Nat} (hC : C ≤ 6) (hD : D ≤ 6) (hc : c < C) (S : SV h ok C D) (k : Q (some (.int (if nW ok D C 0 0 = 0 then -1 else dI D (fsN (fun e => decide (tW ok D C c e = nW ok D C 0 0)) D)))) h) : dh_C G mX7_sureDummyOf [.ref 37, .int (nI c)] h Q := by
  obtain ⟨s1, s2, s3, s4⟩ := S
  have ix := tal_ix (c := c) (by omega)
  have hp := pw6 (D := D) (k := C) hD hC
  have hn : nW ok D C 0 0 ≤ D ^ C := nW_le _ _ _
  refine e_X7_sureDummyOf ?_
  rw [s3]
  refine ⟨fun z => ?_, fun z => d_hasChild s1 hC (w_X7_sureDummyOf_15 ⟨fun _ => ?_, fun y => ?_⟩)⟩
  · rw [if_pos] at k
    · exact k
    · rw [← nI_0, nI_eq (by omega) (by decide)] at z
      exact z
  · rw [if_neg (fun y => z (by rw [y]; rfl))] at k
    refine dh_up (P := fun d => (∀ e, e < d → decide (tW ok D C c e = nW ok D C 0 0) = false) → dh_J G mX7_sureDummyOf 22 [some (.ref 37), some (.int (nI c)), some (.int (nI d))] [] h Q) D ?_ ?_ 0 (by omega) (fun e he => by omega)
    · intro hno
      refine w_X7_sureDummyOf_22 ?_
      rw [s2]
      refine ⟨fun _ => ?_, fun y => absurd (Int32.le_refl _) y⟩
      rw [fsN_no hno] at k
      unfold dI at k
      rw [if_neg (by omega)] at k
      exact k
    · intro d hd ih hno
      have ht := tW_le (ok := ok) (D := D) (C := C) c d
      refine w_X7_sureDummyOf_22 ?_
      rw [s2, s3, nI_leI (by omega) (by omega), nI_clamp (by omega), nI_clamp (by omega), nI_add]
      refine ⟨fun y => by omega, fun _ => ⟨vp_in_nI (by omega) (by decide), 45 + c, ix.1, ix.2, vp_in_nI (by omega) (by decide), ?_⟩⟩
      rw [s4 c d hc hd, nI_eq (by omega) (by omega)]
      refine ⟨fun y => ih (fun e he => ?_), fun y => ?_⟩
      · by_cases w : e = d
        · subst w; simpa using y
        · exact hno e (by omega)
      · rw [fsN_is hd (by simpa using y) hno] at k
        unfold dI at k
        rw [if_pos hd] at k
        exact k
  · rw [bI_0, ixB_nI (by omega)] at y
    simp at y
    omega
/-- the ways in which child c takes d -/
def yS (g : dh_H) (ok : Nat → Nat → Bool) (D C c d : Nat) : Nat := suN (fun e => if tkB g c d (nI e) then tW ok D C c e else 0) D
theorem d_waysToTake {c d : Nat} (hP : PR h g C D) (hc : c < C) (hd : d < D) (S : SV h ok C D) (k : Q (some (.int (nI (yS g ok D C c d)))) h) : dh_C G mX7_waysToTake [.ref 37, .int (nI c), .int (nI d)] h Q := by
  have hP' := hP
  obtain ⟨eC, hC, eD, hD, -, -⟩ := hP'
  have ix := tal_ix (c := c) (by omega)
  refine e_X7_waysToTake (dh_up (P := fun e => dh_J G mX7_waysToTake 5 [some (.ref 37), some (.int (nI c)), some (.int (nI d)), some (.int (nI (suN (fun e => if tkB g c d (nI e) then tW ok D C c e else 0) e))), some (.int (nI e))] [] h Q) D ?_ ?_ 0 (by omega))
  · refine w_X7_waysToTake_5 ?_
    rw [eD]
    exact ⟨fun _ => k, fun y => absurd (Int32.le_refl _) y⟩
  · intro e he ih
    refine w_X7_waysToTake_5 ?_
    rw [eD, nI_leI (by omega) (by omega)]
    refine ⟨fun y => by omega, fun _ => d_takesOwning hP hc (Or.inr ⟨e, he, rfl⟩) ?_⟩
    have e5 : ixB (nI d) D = true := by rw [ixB_nI (by omega)]; simpa using hd
    rw [e5, Bool.true_and, nI_clamp (by omega)]
    have es : suN (fun e => if tkB g c d (nI e) then tW ok D C c e else 0) (e + 1) = suN (fun e => if tkB g c d (nI e) then tW ok D C c e else 0) e + (if tkB g c d (nI e) then tW ok D C c e else 0) := rfl
    refine w_X7_waysToTake_28 ⟨fun z => ?_, fun z => ?_⟩
    · rw [bI_0] at z
      rw [nI_add]
      rw [es, if_neg (by rw [z]; decide), Nat.add_zero] at ih
      exact ih
    · rw [bI_n0] at z
      rw [nI_clamp (by omega), nI_clamp (by omega), nI_add]
      refine ⟨vp_in_nI (by omega) (by decide), 45 + c, ix.1, ix.2, vp_in_nI (by omega) (by decide), ?_⟩
      rw [S.2.2.2 c e hc he, nI_add]
      rw [es, if_pos z] at ih
      exact ih
theorem yS_ct {c d : Nat} (hc : c < C) (hD0 : 0 < D) : yS g ok D C c d = suN (fun i => b2n (vW ok D C 0 0 i && tkB g c d (nI (dd D (C - (c + 1)) i)))) (D ^ C) := tW_sum hc hD0 (fun e => tkB g c d (nI e))
theorem yS_le {c d : Nat} (hc : c < C) (hD0 : 0 < D) : yS g ok D C c d ≤ nW ok D C 0 0 := by
  rw [yS_ct hc hD0, ← nW_ct]
  exact suN_mono (fun i _ => b2n_le (fun z => by rw [Bool.and_eq_true] at z; exact z.1))
theorem d_bestQuestion (hP : PR h g C D) (S : SV h ok C D) (k : Q (some (.int (bqF C D (nW ok D C 0 0) (fun k => yS g ok D C (k / 6) (k % 6)) 36).1)) h) : dh_C G mX7_bestQuestion [.ref 37] h Q := by
  have hP' := hP
  obtain ⟨eC, hC, eD, hD, -, -⟩ := hP'
  have hp := pw6 (D := D) (k := C) hD hC
  have hn : nW ok D C 0 0 ≤ D ^ C := nW_le _ _ _
  generalize ey : (fun k => yS g ok D C (k / 6) (k % 6)) = y at k
  refine e_X7_bestQuestion ?_
  rw [S.2.2.1]
  refine dh_up (P := fun c => dh_J G mX7_bestQuestion 9 [some (.ref 37), some (.int (bqF C D (nW ok D C 0 0) y (6 * c)).1), some (.int (nI (bqF C D (nW ok D C 0 0) y (6 * c)).2)), some (.int (nI c)), none, none, none] [] h Q) C ?_ ?_ 0 (by omega)
  · refine w_X7_bestQuestion_9 ?_
    rw [eC]
    refine ⟨fun _ => ?_, fun z => absurd (Int32.le_refl _) z⟩
    rw [bqF_sk (k := 6 * C) (n := 36) (by omega) (fun j h1 h2 => by omega)] at k
    exact k
  · intro c hc ih
    refine w_X7_bestQuestion_9 ?_
    rw [eC, nI_leI (by omega) (by omega)]
    refine ⟨fun z => by omega, fun _ => ?_⟩
    refine dh_up (P := fun d => dh_J G mX7_bestQuestion 23 [some (.ref 37), some (.int (bqF C D (nW ok D C 0 0) y (6 * c + d)).1), some (.int (nI (bqF C D (nW ok D C 0 0) y (6 * c + d)).2)), some (.int (nI c)), some (.int (nI d)), none, none] [] h Q) D ?_ ?_ 0 (by omega)
    · refine w_X7_bestQuestion_23 ?_
      rw [eD, nI_add]
      refine ⟨fun _ => ?_, fun z => absurd (Int32.le_refl _) z⟩
      rw [bqF_sk (k := 6 * c + D) (n := 6 * (c + 1)) (by omega) (fun j h1 h2 => by omega)] at ih
      exact ih
    · intro d hd ih2
      refine w_X7_bestQuestion_23 ?_
      rw [eD, nI_leI (by omega) (by omega)]
      refine ⟨fun z => by omega, fun _ => d_waysToTake hP hc hd S (w_X7_bestQuestion_42 ?_)⟩
      have hyl := yS_le (g := g) (ok := ok) (D := D) (C := C) (c := c) (d := d) hc (by omega)
      have e6 : (6 * c + d) / 6 = c := by omega
      have e6m : (6 * c + d) % 6 = d := by omega
      have eyk : y (6 * c + d) = yS g ok D C c d := by rw [← ey]; dsimp only; rw [e6, e6m]
      have hfl := bqF_le C D (nW ok D C 0 0) y (6 * c + d)
      have hst : bqF C D (nW ok D C 0 0) y (6 * c + (d + 1)) = if (bqF C D (nW ok D C 0 0) y (6 * c + d)).2 ≤ mx2 (yS g ok D C c d) (nW ok D C 0 0) then bqF C D (nW ok D C 0 0) y (6 * c + d) else (nI (10 * c + d), mx2 (yS g ok D C c d) (nW ok D C 0 0)) := by
        rw [show 6 * c + (d + 1) = (6 * c + d) + 1 from rfl, bqF_s, e6, e6m, if_pos ⟨hc, hd⟩, eyk]
      rw [hst] at ih2
      rw [S.2.2.1, nI_add, pk_mul, nI_add, pk_sub hyl]
      generalize yS g ok D C c d = yy at hyl ih2 ⊢
      generalize bqF C D (nW ok D C 0 0) y (6 * c + d) = b at hfl ih2 ⊢
      generalize nW ok D C 0 0 = all at hn hyl hfl ih2 ⊢
      have em : (if nI yy < nI (all - yy) then nI (all - yy) else nI yy) = nI (mx2 yy all) := by
        unfold mx2
        by_cases z : yy < all - yy
        · rw [if_pos z, if_pos ((nI_ltI (by omega) (by omega)).mpr z)]
        · rw [if_neg z, if_neg (fun z2 => z ((nI_ltI (by omega) (by omega)).mp z2))]
      have hm : mx2 yy all ≤ all := by unfold mx2; split <;> omega
      rw [em, nI_leI (by omega) (by omega)]
      refine ⟨fun z => ?_, fun z => ?_⟩
      · rw [if_pos z] at ih2
        exact ih2
      · rw [if_neg z] at ih2
        exact ih2
-- the model
theorem tkB_cg {h h1 : dh_H} (f65 : h1 65 = h 65) (f66 : h1 66 = h 66) (c d : Nat) (x : Int32) : tkB h1 c d x = tkB h c d x := by
  unfold tkB
  rw [f65, f66]
theorem c_ownings (hN : mN h C D) (k : Q (some (.int (nI (D ^ C)))) h) : dh_C G mX10_ownings [.ref 61] h Q := by
  obtain ⟨eC, hC, eD, hD⟩ := hN
  refine e_X10_ownings (dh_up (P := fun c => dh_J G mX10_ownings 4 [some (.ref 61), some (.int (nI (D ^ c))), some (.int (nI c))] [] h Q) C ?_ ?_ 0 (by omega))
  · refine w_X10_ownings_4 ?_
    rw [eC]
    exact ⟨fun _ => k, fun z => absurd (Int32.le_refl _) z⟩
  · intro c hc ih
    refine w_X10_ownings_4 ?_
    rw [eC, eD, nI_leI (by omega) (by omega), pk_mul, nI_add]
    exact ⟨fun z => by omega, fun _ => ih⟩
/-- what was tried, in the model -/
def TR (h : dh_H) (C D T : Nat) : Prop := h 61 31 = nI T ∧ T ≤ 8 ∧ ∀ k, k < T → (∃ c, c < C ∧ h 73 (3 * k) = nI c) ∧ (∃ d, d < D ∧ h 73 (3 * k + 1) = nI d) ∧ (h 73 (3 * k + 2) = 0 ∨ h 73 (3 * k + 2) = 1)
theorem uB_lt {k i m : Nat} (hD : D ≤ 6) (hD0 : 0 < D) (hm : m < 64) : (uB D k m i).2 < 64 := by
  induction k with
  | zero => exact hm
  | succ k ih =>
    unfold uB
    have : dd D k i < D := Nat.mod_lt _ hD0
    exact bt_lt ih (by omega)
theorem c_layOwning {i : Nat} (hi : i < D ^ C) (hCD : C ≤ D) (hN : mN h C D) (hT : TR h C D T)
    (k : ∀ h1, (∀ a, a ≠ 75 → h1 a = h a) → (∀ c, c < C → h1 75 c = nI (dd D (C - (c + 1)) i)) → Q (some (.int (bI (vW (ft h T) D C 0 0 i)))) h1) : dh_C G mX10_layOwning [.ref 61, .int (nI i)] h Q := by
  obtain ⟨eC, hC, eD, hD⟩ := hN
  obtain ⟨t1, t2, t3⟩ := hT
  have hp := pw6 (D := D) (k := C) hD hC
  -- the trials
  have trials : ∀ hh, (∀ a, a ≠ 75 → hh a = h a) → (∀ c, c < C → hh 75 c = nI (dd D (C - (c + 1)) i)) → dh_J G mX10_layOwning 87 [some (.ref 61), none, none, none, some (.int (bI (uB D C 0 i).1)), some (.int (nI 0))] [] hh Q := by
    intro hh f hr
    have kk := k hh f hr
    rw [vW_uB] at kk
    cases hu : (uB D C 0 i).1 with
    | false =>
      rw [hu, Bool.false_and] at kk
      refine w_X10_layOwning_87 ⟨fun _ => ⟨Or.inl rfl, kk⟩, fun _ => ⟨fun _ => ⟨Or.inl rfl, kk⟩, fun z => absurd rfl z⟩⟩
    | true =>
      rw [hu, Bool.true_and] at kk
      refine dh_up (P := fun j => (∀ q, q < j → ∀ c, c < C → h 73 (3 * q) = nI c → (tkB h c (h 73 (3 * q + 1)).toNatClampNeg (nI (dd D (C - (c + 1)) i)) = true ↔ h 73 (3 * q + 2) = 1)) → dh_J G mX10_layOwning 87 [some (.ref 61), none, none, none, some (.int (bI true)), some (.int (nI j))] [] hh Q) T ?_ ?_ 0 (by omega) (fun q hq => by omega)
      · intro hall
        refine w_X10_layOwning_87 ?_
        rw [f 61 (by decide), t1]
        have : aO (ft h T) D C 0 i = true := by
          rw [aO_i]
          intro t ht
          unfold ft
          refine decide_eq_true (fun q hq hc => ?_)
          rw [Nat.zero_add] at hc ⊢
          exact hall q hq t ht hc
        rw [this] at kk
        exact ⟨fun _ => ⟨Or.inr rfl, kk⟩, fun z => absurd (Int32.le_refl _) z⟩
      · intro j hj ih hall
        obtain ⟨⟨c, hc, q4⟩, ⟨d, hd, q5⟩, q6⟩ := t3 j hj
        have hdd : dd D (C - (c + 1)) i < D := Nat.mod_lt _ (by omega)
        refine w_X10_layOwning_87 ?_
        rw [f 61 (by decide), t1, f 73 (by decide), nI_leI (by omega) (by omega), pk_mul, nI_add, nI_clamp (show 3 * j < 2 ^ 31 by omega), nI_clamp (show 3 * j + 1 < 2 ^ 31 by omega), q4, q5, nI_clamp (show c < 2 ^ 31 by omega), hr c hc]
        refine ⟨fun z => by omega, fun _ => ⟨fun z => absurd z (by decide), fun _ => ⟨vp_in_nI (by omega) (by decide), vp_in_nI (by omega) (by decide), vp_in_nI (by omega) (by decide), vp_in_nI (by omega) (by decide), c_takesBy (by omega) (by omega) (Or.inr ⟨_, by omega, rfl⟩) (w_X10_layOwning_139 ?_)⟩⟩⟩
        rw [f 73 (by decide), pk_mul, nI_add, nI_clamp (show 3 * j + 2 < 2 ^ 31 by omega), tkB_cg (f 65 (by decide)) (f 66 (by decide)), nI_add]
        have good : (tkB h c d (nI (dd D (C - (c + 1)) i)) = true ↔ h 73 (3 * j + 2) = 1) → dh_J G mX10_layOwning 87 [some (.ref 61), none, none, none, some (.int (nI 1)), some (.int (nI (j + 1)))] [] hh Q := by
          intro hg
          refine ih (fun q hq c' hc' e => ?_)
          by_cases y : q = j
          · subst y
            rw [q4, nI_eq (by omega) (by omega)] at e
            subst e
            rw [q5, nI_clamp (by omega)]
            exact hg
          · exact hall q (by omega) c' hc' e
        have badd : ¬ (tkB h c d (nI (dd D (C - (c + 1)) i)) = true ↔ h 73 (3 * j + 2) = 1) → dh_J G mX10_layOwning 87 [some (.ref 61), none, none, none, some (.int (nI 0)), some (.int (nI (j + 1)))] [] hh Q := by
          intro hb
          have : aO (ft h T) D C 0 i = false := by
            cases ha : aO (ft h T) D C 0 i with
            | false => rfl
            | true =>
              rw [aO_i] at ha
              have := ha c hc
              unfold ft at this
              have := of_decide_eq_true this j hj (by rw [Nat.zero_add]; exact q4)
              rw [q5, nI_clamp (by omega), Nat.zero_add] at this
              exact absurd this hb
          rw [this] at kk
          exact w_X10_layOwning_87 ⟨fun _ => ⟨Or.inl rfl, kk⟩, fun _ => ⟨fun _ => ⟨Or.inl rfl, kk⟩, fun z => absurd rfl z⟩⟩
        generalize tkB h c d (nI (dd D (C - (c + 1)) i)) = b at good badd ⊢
        refine ⟨vp_in_nI (by omega) (by decide), fun z => ⟨fun y => badd (fun w => ?_), fun y => good ?_⟩, fun z => ⟨fun y => badd (fun w => ?_), fun y => good ?_⟩⟩
        · cases b with
          | false => exact y rfl
          | true => exact z (w.mp rfl)
        · cases b with
          | false => exact ⟨fun w => absurd w (by decide), fun w => absurd w z⟩
          | true => exact absurd y (by decide)
        · cases b with
          | false => exact absurd (w.mpr z) (by decide)
          | true => exact y rfl
        · cases b with
          | false => exact absurd y (by decide)
          | true => exact ⟨fun _ => z, fun _ => rfl⟩
  -- the row
  refine e_X10_layOwning ?_
  rw [eC]
  have key := dh_up (P := fun t => ∀ hh, (∀ a, a ≠ 75 → hh a = h a) → (∀ c, C - t ≤ c → c < C → hh 75 c = nI (dd D (C - (c + 1)) i)) → dh_J G mX10_layOwning 15 [some (.ref 61), none, some (.int (nI (i / D ^ t))), some (.int (nI (uB D t 0 i).2)), some (.int (bI (uB D t 0 i).1)), some (.int (nI (C - t) - nI 1))] [] hh Q) C ?_ ?_ 0 (by omega) h (fun _ _ => rfl) (fun c h1 h2 => by omega)
  · rw [Nat.pow_zero, Nat.div_one] at key
    exact key
  · intro hh f hr
    rw [Nat.sub_self] at hr ⊢
    exact w_X10_layOwning_15 ⟨fun _ => trials hh f (fun c hc => hr c (by omega) hc), fun z => absurd (by decide) z⟩
  · intro t ht ih hh f hr
    have hD0 : 0 < D := by omega
    have hit : i / D ^ t ≤ i := Nat.div_le_self _ _
    have hul := uB_lt (D := D) (k := t) (i := i) (m := 0) hD hD0 (by decide)
    have hdl : dd D t i < D := Nat.mod_lt _ hD0
    have e5 : nI (C - t) - nI 1 = nI (C - (t + 1)) := by rw [pk_sub (by omega)]; rfl
    have e5' : nI (C - (t + 1)) + (-1 : Int32) = nI (C - (t + 1)) - nI 1 := by rw [Int32.sub_eq_add_neg]; rfl
    have e7 : nI (i / D ^ t) / nI D = nI (i / D ^ (t + 1)) := by rw [pk_div (by omega) (by omega) (by omega), Nat.div_div_eq_div_mul, Nat.pow_succ]
    have e7r : nI (i / D ^ t) - nI (i / D ^ (t + 1)) * nI D = nI (dd D t i) := by
      rw [← e7, pk_rem (by omega) (by omega) (by omega)]
      rfl
    have eU : uB D (t + 1) 0 i = ((uB D t 0 i).1 && !Nat.testBit (uB D t 0 i).2 (dd D t i), bt (uB D t 0 i).2 (dd D t i)) := rfl
    rw [eU] at ih
    have row : ∀ c, C - (t + 1) ≤ c → c < C → dh_s hh 75 (C - (t + 1)) (nI (dd D t i)) 75 c = nI (dd D (C - (c + 1)) i) := by
      intro c h1 h2
      by_cases y : c = C - (t + 1)
      · rw [y, dh_s_eq, show C - (C - (t + 1) + 1) = t by omega]
      · rw [dh_s_nk y]
        exact hr c (by omega) h2
    generalize uB D t 0 i = r at hul ih ⊢
    dsimp only at ih
    refine w_X10_layOwning_15 ?_
    rw [f 61 (by decide), eD, e5, e7, e7r, e5', nI_clamp (show C - (t + 1) < 2 ^ 31 by omega), dh_s_eq, nIbt hul (by omega)]
    generalize dd D t i = a at hdl ih row ⊢
    have f2 : ∀ q, q ≠ 75 → dh_s hh 75 (C - (t + 1)) (nI a) q = h q := fun q hq => by rw [dh_s_n hq]; exact f q hq
    have ih3 := ih _ f2 row
    refine ⟨fun z => absurd z (nI_pos (by omega)), fun _ => ⟨nI_ne0 (by omega) (by omega), vp_in_nI (by omega) (by decide), nI_ne0 (by omega) (by omega), fun z => ⟨vp_in_nI (by omega) (by decide), ?_⟩, fun z => ⟨vp_in_nI (by omega) (by decide), c_has ?_⟩⟩⟩
    · rw [bI_0] at z
      rw [z, Bool.false_and] at ih3
      exact ih3
    · rw [bI_n0] at z
      rw [has_nI hul (by omega)]
      rw [z, Bool.true_and] at ih3
      refine w_X10_layOwning_56 ?_
      rw [nI_clamp (show C - (t + 1) < 2 ^ 31 by omega), dh_s_eq, nIbt hul (by omega), e5']
      refine ⟨fun y => ⟨vp_in_nI (by omega) (by decide), ?_⟩, fun y => ⟨vp_in_nI (by omega) (by decide), ?_⟩⟩
      · rw [bI_n0] at y
        rw [y] at ih3
        exact ih3
      · rw [bI_0] at y
        rw [y] at ih3
        exact ih3
end CQ
