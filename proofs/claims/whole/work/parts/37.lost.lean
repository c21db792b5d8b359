/-! pair: lost; what changes outside the relation -/
section S8
variable {G : dh_G} {h g h1 : dh_H} {C D : Nat} {Q : Option Value → dh_H → Prop}
/-- the rows of which the relation speaks whole -/
def kpt (a : Nat) : Prop := (2 ≤ a ∧ a ≤ 10) ∨ (19 ≤ a ∧ a ≤ 26) ∨ (38 ≤ a ∧ a ≤ 40) ∨ (51 ≤ a ∧ a ≤ 54) ∨ (56 ≤ a ∧ a ≤ 59) ∨ a = 62 ∨ (65 ≤ a ∧ a ≤ 74)
def kp61 (k : Nat) : Prop := k = 0 ∨ k = 7 ∨ (16 ≤ k ∧ k ≤ 20) ∨ k = 26 ∨ k = 30 ∨ k = 31 ∨ k = 33
theorem RR_scr (fK : ∀ a, kpt a → h1 a = h a) (f1 : h1 1 1 = h 1 1) (f5 : h1 1 5 = h 1 5) (f37 : h1 37 1 = h 37 1) (f61 : ∀ k, kp61 k → h1 61 k = h 61 k) (R : RR h h C D) : RR h1 h1 C D := by
  obtain ⟨r1, r2, r3, r4, r5, r6, r7, r8, r9, r10⟩ := R
  refine ⟨?_, PR_cg r2 (fun a q1 q2 => fK a (by unfold kpt; omega)) (fun a q1 q2 => fK a (by unfold kpt; omega)), ?_, ?_, ?_, ?_, ?_, ?_, ?_, ?_⟩
  · unfold mN at r1 ⊢
    rw [f61 19 (by unfold kp61; omega), f61 20 (by unfold kp61; omega)]
    exact r1
  · unfold PX PL at r3 ⊢
    rw [fK 3 (by unfold kpt; omega), f61 16 (by unfold kp61; omega), f61 17 (by unfold kp61; omega), f61 18 (by unfold kp61; omega)]
    exact r3
  · rw [wv_cg (h := h) (fun a q1 q2 => fK a (by unfold kpt; omega)), fK 68 (by unfold kpt; omega)]
    exact r4
  · unfold PA at r5 ⊢
    rw [fK 25 (by unfold kpt; omega), fK 26 (by unfold kpt; omega), fK 69 (by unfold kpt; omega), f61 26 (by unfold kp61; omega)]
    exact r5
  · unfold DR at r6 ⊢
    rw [fK 54 (by unfold kpt; omega), f61 30 (by unfold kp61; omega)]
    exact r6
  · unfold IM1 at r7 ⊢
    rw [fK 56 (by unfold kpt; omega), fK 58 (by unfold kpt; omega), fK (56 + 1) (by unfold kpt; omega), fK (58 + 1) (by unfold kpt; omega), fK 70 (by unfold kpt; omega), fK 71 (by unfold kpt; omega), fK 72 (by unfold kpt; omega)]
    exact r7
  · unfold RI at r8 ⊢
    rw [f37, fK 38 (by unfold kpt; omega), fK 39 (by unfold kpt; omega), fK 40 (by unfold kpt; omega), f61 31 (by unfold kp61; omega), fK 73 (by unfold kpt; omega)]
    exact r8
  · unfold BO at r9 ⊢
    rw [fK 51 (by unfold kpt; omega), fK 52 (by unfold kpt; omega), fK 53 (by unfold kpt; omega), f61 33 (by unfold kp61; omega), fK 74 (by unfold kpt; omega)]
    exact r9
  · unfold TX at r10 ⊢
    rw [f1, f5, fK 2 (by unfold kpt; omega), f61 0 (by unfold kp61; omega), f61 7 (by unfold kp61; omega), fK 62 (by unfold kpt; omega)]
    exact r10
/-- a row changed that the relation doesn't speak of -/
theorem RR_row {r : Nat} (hr1 : ¬ kpt r) (hr2 : r ≠ 1 ∧ r ≠ 37 ∧ r ≠ 61) (f : ∀ a, a ≠ r → h1 a = h a) (R : RR h h C D) : RR h1 h1 C D :=
  RR_scr (fun a ha => f a (fun e => hr1 (e ▸ ha))) (by rw [f 1 (fun e => hr2.1 e.symm)]) (by rw [f 1 (fun e => hr2.1 e.symm)]) (by rw [f 37 (fun e => hr2.2.1 e.symm)]) (fun k _ => by rw [f 61 (fun e => hr2.2.2 e.symm)]) R
-- the hunt for a lost one: heaps and what was found behind k looks
def lsR (n p : Nat) : Nat → Nat → Nat
  | 0, _ => 1000000000 / n
  | k + 1, i => if i = k % n then lsR n p k i - lsR n p k i * p / 100 else lsR n p k i
def lsF (n p : Nat) : Nat → Nat
  | 0 => 0
  | k + 1 => lsF n p k + lsR n p k (k % n) * p / 100
theorem lsR_le (n p k i : Nat) : lsR n p k i ≤ 1000000000 := by
  induction k with
  | zero => exact Nat.div_le_self _ _
  | succ k ih =>
    show (if i = k % n then lsR n p k i - lsR n p k i * p / 100 else lsR n p k i) ≤ 1000000000
    split <;> omega
theorem ls_sub {a p : Nat} (hp : p ≤ 100) : a * p / 100 ≤ a := by
  have : a * p ≤ a * 100 := Nat.mul_le_mul_left a hp
  omega
theorem c_lost {x1 x2 x3 : Int32} (k1 : ¬ (inB x1 (nI 1) (nI 20) = true ∧ inB x2 (nI 0) (nI 100) = true ∧ inB x3 (nI 0) (nI 60) = true) → Q (some (.int (-1000000002))) h)
    (k2 : inB x1 (nI 1) (nI 20) = true ∧ inB x2 (nI 0) (nI 100) = true ∧ inB x3 (nI 0) (nI 60) = true → h 68 19 = 0 → Q (some (.int (-1000000003))) h)
    (k3 : ∀ n p t, 1 ≤ n → n ≤ 20 → p ≤ 100 → t ≤ 60 → x1 = nI n → x2 = nI p → x3 = nI t → ¬ h 68 19 = 0 → ∀ h1, (∀ a, a ≠ 77 → h1 a = h a) → Q (some (.int (nI (lsF n p t)))) h1) : dh_C G mX10_lost [.ref 61, .int x1, .int x2, .int x3] h Q := by
  refine e_X10_lost (c_in (w_X10_lost_7 ⟨fun q => k1 (fun z => ?_), fun q => c_in (w_X10_lost_17 ⟨fun q2 => k1 (fun z => ?_), fun q2 => c_in (w_X10_lost_27 ⟨fun q3 => ⟨fun q4 => ?_, fun q4 => k2 ?_ q4⟩, fun q3 => k1 (fun z => ?_)⟩)⟩)⟩))
  · rw [bI_0, z.1] at q; exact absurd q (by decide)
  · rw [bI_0, z.2.1] at q2; exact absurd q2 (by decide)
  · rw [bI_n0] at q q2 q3
    obtain ⟨n, n1, n2, rfl⟩ := (inB_nat x1 (by decide) (by decide)).mp q
    obtain ⟨p, -, p2, rfl⟩ := (inB_nat x2 (by decide) (by decide)).mp q2
    obtain ⟨t, -, t2, rfl⟩ := (inB_nat x3 (by decide) (by decide)).mp q3
    have k := k3 n p t n1 n2 p2 t2 rfl rfl rfl q4
    have eB : ((1000000000 : Int64) / (nI n).toInt64).toInt32 = nI (1000000000 / n) := by
      rw [nI_l (by omega), show (1000000000 : Int64) = lN 1000000000 from rfl, pk_lDiv (by decide) (by omega) (by omega), lN_i]
    have en0 : ¬ (nI n).toInt64 = 0 := by
      rw [nI_l (by omega), show (0 : Int64) = lN 0 from rfl, lN_eq (by omega) (by decide)]
      omega
    have loop2 : ∀ hh : dh_H, (∀ a, a ≠ 77 → hh a = h a) → (∀ j, j < n → hh 77 j = nI (lsR n p 0 j)) → dh_J G mX10_lost 81 [some (.ref 61), some (.int (nI n)), some (.int (nI p)), some (.int (nI t)), some (.int (nI 0)), some (.int (nI 0)), none] [] hh Q := by
      refine dh_up (P := fun i => ∀ hh : dh_H, (∀ a, a ≠ 77 → hh a = h a) → (∀ j, j < n → hh 77 j = nI (lsR n p i j)) → dh_J G mX10_lost 81 [some (.ref 61), some (.int (nI n)), some (.int (nI p)), some (.int (nI t)), some (.int (nI (lsF n p i))), some (.int (nI i)), none] [] hh Q) t ?_ ?_ 0 (by omega)
      · intro hh f _
        exact w_X10_lost_81 ⟨fun _ => k hh f, fun z => absurd (Int32.le_refl _) z⟩
      · intro i hi ih hh f e
        refine w_X10_lost_81 ?_
        have hm : i % n < n := Nat.mod_lt _ (by omega)
        have hl := lsR_le n p i (i % n)
        have hs := ls_sub (a := lsR n p i (i % n)) p2
        rw [pk_rem (by omega) (by omega) (by omega)]
        simp (disch := omega) only [nI_leI, nI_clamp]
        rw [e _ hm, pct hl p2, pk_sub hs, nI_add, nI_add]
        refine ⟨fun z => by omega, fun _ => ⟨nI_ne0 (by omega) (by omega), vp_in_nI (by omega) (by omega), by decide, nI_ne0 (by omega) (by omega), vp_in_nI (by omega) (by omega), vp_in_nI (by omega) (by omega), ih _ (fun a ha => by rw [dh_s_n ha]; exact f a ha) (fun j hj => ?_)⟩⟩
        show dh_s hh 77 (i % n) _ 77 j = nI (if j = i % n then lsR n p i j - lsR n p i j * p / 100 else lsR n p i j)
        by_cases z : j = i % n
        · rw [if_pos z, z, dh_s_eq]
        · rw [if_neg z, dh_s_nk z]
          exact e j hj
    refine dh_up (P := fun i => ∀ hh : dh_H, (∀ a, a ≠ 77 → hh a = h a) → (∀ j, j < i → hh 77 j = nI (1000000000 / n)) → dh_J G mX10_lost 49 [some (.ref 61), some (.int (nI n)), some (.int (nI p)), some (.int (nI t)), some (.int (nI i)), none, none] [] hh Q) n ?_ ?_ 0 (by omega) h (fun _ _ => rfl) (fun j hj => by omega)
    · intro hh f e
      exact w_X10_lost_49 ⟨fun _ => loop2 hh f e, fun z => absurd (Int32.le_refl _) z⟩
    · intro i hi ih hh f e
      refine w_X10_lost_49 ?_
      rw [eB, nI_add]
      simp (disch := omega) only [nI_leI, nI_clamp]
      refine ⟨fun z => by omega, fun _ => ⟨en0, vp_in_nI (by omega) (by omega), ih _ (fun a ha => by rw [dh_s_n ha]; exact f a ha) (fun j hj => ?_)⟩⟩
      by_cases z : j = i
      · rw [z, dh_s_eq]
      · rw [dh_s_nk z]
        exact e j (by omega)
  · rw [bI_n0] at q q2 q3
    exact ⟨q, q2, q3⟩
  · rw [bI_0, z.2.2] at q3; exact absurd q3 (by decide)
theorem d_lost {x1 x2 x3 : Int32} (hP : PR h g C D) (hW : WV (wv h) (g 68) C D) (k1 : ¬ (inB x1 (nI 1) (nI 20) = true ∧ inB x2 (nI 0) (nI 100) = true ∧ inB x3 (nI 0) (nI 60) = true) → Q (some (.int (-1000000002))) h)
    (k2 : inB x1 (nI 1) (nI 20) = true ∧ inB x2 (nI 0) (nI 100) = true ∧ inB x3 (nI 0) (nI 60) = true → g 68 19 = 0 → Q (some (.int (-1000000003))) h)
    (k3 : ∀ n p t, 1 ≤ n → n ≤ 20 → p ≤ 100 → t ≤ 60 → x1 = nI n → x2 = nI p → x3 = nI t → ¬ g 68 19 = 0 → ∀ h1, (∀ a, a ≠ 60 → h1 a = h a) → Q (some (.int (nI (lsF n p t)))) h1) : dh_C G mX9_lost [.ref 0, .int x1, .int x2, .int x3] h Q := by
  have hD := hP.2.2.2.1
  refine e_X9_lost ⟨fun q => k1 (fun z => ?_), fun q => ⟨fun q2 => k1 (fun z => ?_), fun q2 => ⟨fun q3 => k1 (fun z => ?_), fun q3 => ⟨fun q4 => k1 (fun z => ?_), fun q4 => ⟨fun q5 => k1 (fun z => ?_), fun q5 => ⟨fun q6 => ?_, fun q6 => k1 (fun z => ?_)⟩⟩⟩⟩⟩⟩
  · simp [inB, q] at z
  · simp [inB, q2] at z
  · simp [inB, nI_0, q3] at z
  · simp [inB, q4] at z
  · simp [inB, nI_0, q5] at z
  · have i1 : inB x1 (nI 1) (nI 20) = true := by simp [inB, q, q2]
    have i2 : inB x2 (nI 0) (nI 100) = true := by simp [inB, nI_0, q3, q4]
    have i3 : inB x3 (nI 0) (nI 60) = true := by
      have q7 : ¬ nI 60 < x3 := by rw [Int32.not_lt]; exact q6
      simp [inB, nI_0, q5, q7]
    have e19 : stF (fun d => decide (h 20 d = -2)) D = g 68 19 := by
      rw [hW.2.2.2.2.1]
      exact stF_congr (fun i hi => by rw [wv_pl h (by omega)])
    refine d_setAt hP ?_
    rw [e19]
    refine w_X9_lost_43 ⟨fun q7 => ?_, fun q7 => k2 ⟨i1, i2, i3⟩ q7⟩
    obtain ⟨n, n1, n2, rfl⟩ := (inB_nat x1 (by decide) (by decide)).mp i1
    obtain ⟨p, -, p2, rfl⟩ := (inB_nat x2 (by decide) (by decide)).mp i2
    obtain ⟨t, -, t2, rfl⟩ := (inB_nat x3 (by decide) (by decide)).mp i3
    have k := k3 n p t n1 n2 p2 t2 rfl rfl rfl q7
    have loop2 : ∀ hh : dh_H, (∀ a, a ≠ 60 → hh a = h a) → (∀ j, j < n → hh 60 j = nI (lsR n p 0 j)) → dh_J G mX9_lost 81 [some (.ref 0), some (.int (nI n)), some (.int (nI p)), some (.int (nI t)), some (.int (nI 0)), some (.int (nI 0)), none, none] [] hh Q := by
      refine dh_up (P := fun i => ∀ hh : dh_H, (∀ a, a ≠ 60 → hh a = h a) → (∀ j, j < n → hh 60 j = nI (lsR n p i j)) → dh_J G mX9_lost 81 [some (.ref 0), some (.int (nI n)), some (.int (nI p)), some (.int (nI t)), some (.int (nI (lsF n p i))), some (.int (nI i)), none, none] [] hh Q) t ?_ ?_ 0 (by omega)
      · intro hh f _
        exact w_X9_lost_81 ⟨fun _ => k hh f, fun z => absurd (Int32.le_refl _) z⟩
      · intro i hi ih hh f e
        refine w_X9_lost_81 ?_
        have hm : i % n < n := Nat.mod_lt _ (by omega)
        have hl := lsR_le n p i (i % n)
        have hs := ls_sub (a := lsR n p i (i % n)) p2
        rw [pk_rem (by omega) (by omega) (by omega)]
        simp (disch := omega) only [nI_leI, nI_clamp]
        rw [e _ hm]
        refine ⟨fun z => by omega, fun _ => ⟨nI_ne0 (by omega) (by omega), vp_in_nI (by omega) (by omega), d_percentOf hl p2 (w_X9_lost_104 ?_)⟩⟩
        simp (disch := omega) only [nI_clamp, nI_add]
        rw [e _ hm, pk_sub hs]
        refine ⟨vp_in_nI (by omega) (by omega), vp_in_nI (by omega) (by omega), ih _ (fun a ha => by rw [dh_s_n ha]; exact f a ha) (fun j hj => ?_)⟩
        show dh_s hh 60 (i % n) _ 60 j = nI (if j = i % n then lsR n p i j - lsR n p i j * p / 100 else lsR n p i j)
        by_cases z : j = i % n
        · rw [if_pos z, z, dh_s_eq]
        · rw [if_neg z, dh_s_nk z]
          exact e j hj
    refine dh_up (P := fun i => ∀ hh : dh_H, (∀ a, a ≠ 60 → hh a = h a) → (∀ j, j < i → hh 60 j = nI (1000000000 / n)) → dh_J G mX9_lost 52 [some (.ref 0), some (.int (nI n)), some (.int (nI p)), some (.int (nI t)), some (.int (nI i)), none, none, none] [] hh Q) n ?_ ?_ 0 (by omega) h (fun _ _ => rfl) (fun j hj => by omega)
    · intro hh f e
      exact w_X9_lost_52 ⟨fun _ => loop2 hh f e, fun z => absurd (Int32.le_refl _) z⟩
    · intro i hi ih hh f e
      refine w_X9_lost_52 ?_
      rw [pk_div (by decide) (by omega) (by omega), nI_add]
      simp (disch := omega) only [nI_leI, nI_clamp]
      refine ⟨fun z => by omega, fun _ => ⟨nI_ne0 (by omega) (by omega), vp_in_nI (by omega) (by omega), ih _ (fun a ha => by rw [dh_s_n ha]; exact f a ha) (fun j hj => ?_)⟩⟩
      by_cases z : j = i
      · rw [z, dh_s_eq]
      · rw [dh_s_nk z]
        exact e j (by omega)
  · have q7 : nI 60 < x3 := by rw [← Int32.not_le]; exact q6
    simp [inB, q7] at z
theorem sim_lost {x1 x2 x3 : Int32} (I : Inv h) : SM G mX9_lost mX10_lost [.int x1, .int x2, .int x3] h := by
  have J := I
  obtain ⟨C, D, R⟩ := I
  have R' := R
  obtain ⟨r1, r2, r3, r4, -⟩ := R'
  have ins : ∀ n p t, 1 ≤ n → n ≤ 20 → p ≤ 100 → t ≤ 60 → x1 = nI n → x2 = nI p → x3 = nI t → inB x1 (nI 1) (nI 20) = true ∧ inB x2 (nI 0) (nI 100) = true ∧ inB x3 (nI 0) (nI 60) = true := fun n p t a1 a2 a3 a4 b1 b2 b3 => ⟨(inB_nat x1 (by decide) (by decide)).mpr ⟨n, a1, a2, b1⟩, (inB_nat x2 (by decide) (by decide)).mpr ⟨p, by omega, a3, b2⟩, (inB_nat x3 (by decide) (by decide)).mpr ⟨t, by omega, a4, b3⟩⟩
  refine d_lost r2 r4 (fun q => ⟨_, rfl, c_lost (fun _ => ⟨rfl, J⟩) (fun z _ => absurd z q) (fun n p t a1 a2 a3 a4 b1 b2 b3 _ => absurd (ins n p t a1 a2 a3 a4 b1 b2 b3) q)⟩) (fun q q2 => ⟨_, rfl, c_lost (fun z => absurd q z) (fun _ _ => ⟨rfl, J⟩) (fun _ _ _ _ _ _ _ _ _ _ z => absurd q2 z)⟩) (fun n p t a1 a2 a3 a4 b1 b2 b3 q h1 f => ⟨_, rfl, ?_⟩)
  have e68 : h1 68 19 = h 68 19 := by rw [f 68 (by decide)]
  refine c_lost (fun z => absurd (ins n p t a1 a2 a3 a4 b1 b2 b3) z) (fun _ z => absurd (by rw [← e68]; exact z) q) (fun n' p' t' c1 c2 c3 c4 d1 d2 d3 _ h2 f2 => ⟨?_, C, D, RR_row (r := 77) (by unfold kpt; omega) (by omega) f2 (RR_row (r := 60) (by unfold kpt; omega) (by omega) f R)⟩)
  rw [b1, nI_eq (by omega) (by omega)] at d1
  rw [b2, nI_eq (by omega) (by omega)] at d2
  rw [b3, nI_eq (by omega) (by omega)] at d3
  rw [d1, d2, d3]
end S8
