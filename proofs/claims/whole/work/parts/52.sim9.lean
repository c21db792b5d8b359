/-! the pairs whose and next -/
section S10
variable {G : dh_G} {h : dh_H} {C D T : Nat} {Q : Option Value → dh_H → Prop}
theorem TR_cg {h h1 : dh_H} (t : TR h C D T) (f : h1 61 = h 61) (f2 : h1 73 = h 73) : TR h1 C D T := by
  unfold TR at t ⊢
  rw [f, f2]
  exact t
theorem ft_cg {h h1 : dh_H} (f65 : h1 65 = h 65) (f66 : h1 66 = h 66) (f73 : h1 73 = h 73) : ft h1 T = ft h T := by
  funext c d
  unfold ft
  rw [f73]
  have : ∀ d x, tkB h1 c d x = tkB h c d x := fun d x => tkB_cg f65 f66 c d x
  simp only [this]
theorem mN_cg {h h1 : dh_H} (n : mN h C D) (f : h1 61 = h 61) : mN h1 C D := by
  unfold mN at n ⊢
  rw [f]
  exact n
/-- how many ways there are -/
theorem c_whose_n (hCD : C ≤ D) (hN : mN h C D) (hT : TR h C D T) (k : ∀ h1, (∀ a, a ≠ 75 → h1 a = h a) → Q (some (.int (nI (nW (ft h T) D C 0 0)))) h1) : dh_J G mX10_whose 37 [some (.ref 61), some (.int (-1)), some (.int (nI 0)), some (.int (-1)), some (.int (nI 0)), none] [] h Q := by
  have hN' := hN
  obtain ⟨eC, hC, eD, hD⟩ := hN'
  have hp := pw6 (D := D) (k := C) hD hC
  refine dh_up (P := fun i => ∀ hh, (∀ a, a ≠ 75 → hh a = h a) → dh_J G mX10_whose 37 [some (.ref 61), some (.int (-1)), some (.int (nI (suN (fun i => b2n (vW (ft h T) D C 0 0 i)) i))), some (.int (-1)), some (.int (nI i)), none] [] hh Q) (D ^ C) ?_ ?_ 0 (by omega) h (fun _ _ => rfl)
  · intro hh f
    refine w_X10_whose_37 (c_ownings (mN_cg hN (f 61 (by decide))) (w_X10_whose_43 ⟨fun _ => ⟨fun z => absurd rfl z, fun _ => ?_⟩, fun z => absurd (Int32.le_refl _) z⟩))
    rw [nW_ct]
    exact k hh f
  · intro i hi ih hh f
    refine w_X10_whose_37 (c_ownings (mN_cg hN (f 61 (by decide))) (w_X10_whose_43 ?_))
    rw [nI_leI (by omega) (by omega)]
    refine ⟨fun z => by omega, fun _ => c_layOwning hi hCD (mN_cg hN (f 61 (by decide))) (TR_cg hT (f 61 (by decide)) (f 73 (by decide))) (fun h2 f2 _ => w_X10_whose_52 ?_)⟩
    have ff : ∀ a, a ≠ 75 → h2 a = h a := fun a ha => (f2 a ha).trans (f a ha)
    rw [ft_cg (f 65 (by decide)) (f 66 (by decide)) (f 73 (by decide)), nI_add]
    have es : suN (fun i => b2n (vW (ft h T) D C 0 0 i)) (i + 1) = suN (fun i => b2n (vW (ft h T) D C 0 0 i)) i + b2n (vW (ft h T) D C 0 0 i) := rfl
    rw [es] at ih
    refine ⟨fun z => ?_, fun z => ⟨fun y => absurd rfl y, fun _ => ?_⟩⟩
    · rw [bI_0] at z
      rw [z] at ih
      exact ih h2 ff
    · rw [bI_n0] at z
      rw [z] at ih
      have ih2 := ih h2 ff
      rw [nI_add]
      exact ⟨fun _ => ih2, fun _ => ⟨fun y => absurd rfl y, fun _ => ih2⟩⟩
/-- what child c owns for sure -/
theorem c_whose_c {c : Nat} (hCD : C ≤ D) (hc : c < C) (hN : mN h C D) (hT : TR h C D T)
    (k : ∀ h1, (∀ a, a ≠ 75 → h1 a = h a) → Q (some (.int (if nW (ft h T) D C 0 0 = 0 then -1 else dI D (fsN (fun e => decide (tW (ft h T) D C c e = nW (ft h T) D C 0 0)) D)))) h1) : dh_J G mX10_whose 37 [some (.ref 61), some (.int (nI c)), some (.int (nI 0)), some (.int (-1)), some (.int (nI 0)), none] [] h Q := by
  have hN' := hN
  obtain ⟨eC, hC, eD, hD⟩ := hN'
  have hp := pw6 (D := D) (k := C) hD hC
  have hne : ¬ nI c = -1 := nI_ne_m1 (by omega)
  let dgc : Nat → Nat := fun i => dd D (C - (c + 1)) i
  let V : Nat → Bool := fun i => vW (ft h T) D C 0 0 i
  have hdl : ∀ i, dgc i < D := fun i => Nat.mod_lt _ (by omega)
  let IV : Nat → Int32 → Prop := fun i x3 => (x3 = -1 ∧ ∀ j, j < i → V j = false) ∨ (∃ e, e < D ∧ x3 = nI e ∧ (∃ j, j < i ∧ V j = true) ∧ ∀ j, j < i → V j = true → dgc j = e) ∨ (x3 = -2 ∧ ∃ j1 j2, j1 < i ∧ j2 < i ∧ V j1 = true ∧ V j2 = true ∧ dgc j1 ≠ dgc j2)
  refine dh_up (P := fun i => ∀ hh x3, (∀ a, a ≠ 75 → hh a = h a) → IV i x3 → dh_J G mX10_whose 37 [some (.ref 61), some (.int (nI c)), some (.int (nI (suN (fun i => b2n (V i)) i))), some (.int x3), some (.int (nI i)), none] [] hh Q) (D ^ C) ?_ ?_ 0 (by omega) h (-1) (fun _ _ => rfl) (Or.inl ⟨rfl, fun j hj => by omega⟩)
  · intro hh x3 f I
    have kk := k hh f
    have ect : ∀ e, tW (ft h T) D C c e = suN (fun i => b2n (V i && decide (dgc i = e))) (D ^ C) := fun e => tW_ct hc e
    have en : nW (ft h T) D C 0 0 = suN (fun i => b2n (V i)) (D ^ C) := (nW_ct C 0 0).symm
    -- as many as all: all own it
    have all : ∀ e, tW (ft h T) D C c e = nW (ft h T) D C 0 0 → ∀ j, j < D ^ C → V j = true → dgc j = e := by
      intro e he j hj hv
      rw [ect, en] at he
      have := suN_eq (p := fun i => V i && decide (dgc i = e)) (q := V) (fun i hi => by rw [Bool.and_eq_true] at hi; exact hi.1) he j hj hv
      rw [Bool.and_eq_true] at this
      simpa using this.2
    refine w_X10_whose_37 (c_ownings (mN_cg hN (f 61 (by decide))) (w_X10_whose_43 ⟨fun _ => ⟨fun _ => ?_, fun z => absurd z hne⟩, fun z => absurd (Int32.le_refl _) z⟩))
    rcases I with ⟨I1, I2⟩ | ⟨e, he, I1, ⟨j, hj, hv⟩, I2⟩ | ⟨I1, j1, j2, l1, l2, v1, v2, I2⟩
    · have hz : nW (ft h T) D C 0 0 = 0 := by
        rw [en]
        exact suN_0 (fun i hi => by rw [I2 i hi]; rfl)
      rw [if_pos hz] at kk
      subst I1
      exact ⟨fun _ => kk, fun z => absurd z (by decide)⟩
    · have hz : ¬ nW (ft h T) D C 0 0 = 0 := by
        rw [en]
        exact suN_pos.mpr ⟨j, hj, hv⟩
      have hfs : fsN (fun e => decide (tW (ft h T) D C c e = nW (ft h T) D C 0 0)) D = e := by
        refine fsN_is he ?_ (fun e' he' => ?_)
        · refine decide_eq_true ?_
          rw [ect, en]
          refine suN_cg (fun i hi => ?_)
          cases hvi : V i with
          | false => rfl
          | true => rw [I2 i hi hvi]; simp
        · refine decide_eq_false (fun z => ?_)
          have h1 := all e' z j hj hv
          have h2 := I2 j hj hv
          omega
      rw [if_neg hz, hfs] at kk
      unfold dI at kk
      rw [if_pos he] at kk
      subst I1
      refine ⟨fun _ => kk, fun z => ?_⟩
      have h1 := nI_toInt (show e < 2 ^ 31 by omega)
      rw [z] at h1
      have h2 : (-2 : Int32).toInt = -2 := by decide
      omega
    · have hz : ¬ nW (ft h T) D C 0 0 = 0 := by
        rw [en]
        exact suN_pos.mpr ⟨j1, l1, v1⟩
      have hfs : fsN (fun e => decide (tW (ft h T) D C c e = nW (ft h T) D C 0 0)) D = D := by
        refine fsN_no (fun e' he' => decide_eq_false (fun z => ?_))
        exact I2 ((all e' z j1 l1 v1).trans (all e' z j2 l2 v2).symm)
      rw [if_neg hz, hfs] at kk
      unfold dI at kk
      rw [if_neg (by omega)] at kk
      subst I1
      exact ⟨fun z => absurd rfl z, fun _ => kk⟩
  · intro i hi ih hh x3 f I
    refine w_X10_whose_37 (c_ownings (mN_cg hN (f 61 (by decide))) (w_X10_whose_43 ?_))
    rw [nI_leI (by omega) (by omega)]
    refine ⟨fun z => by omega, fun _ => c_layOwning hi hCD (mN_cg hN (f 61 (by decide))) (TR_cg hT (f 61 (by decide)) (f 73 (by decide))) (fun h2 f2 hr => w_X10_whose_52 ?_)⟩
    have ff : ∀ a, a ≠ 75 → h2 a = h a := fun a ha => (f2 a ha).trans (f a ha)
    rw [ft_cg (f 65 (by decide)) (f 66 (by decide)) (f 73 (by decide)), nI_add, nI_clamp (show c < 2 ^ 31 by omega), hr c hc]
    have es : suN (fun i => b2n (V i)) (i + 1) = suN (fun i => b2n (V i)) i + b2n (V i) := rfl
    rw [es] at ih
    have hsl : suN (fun i => b2n (V i)) i ≤ i := suN_b _ _
    refine ⟨fun z => ?_, fun z => ⟨fun _ => ⟨vp_in_nI (by omega) (by decide), ?_⟩, fun y => absurd y hne⟩⟩
    · rw [bI_0] at z
      have z2 : V i = false := z
      rw [z2] at ih
      refine ih h2 x3 ff ?_
      rcases I with ⟨I1, I2⟩ | ⟨e, he, I1, ⟨j, hj, hv⟩, I2⟩ | ⟨I1, j1, j2, l1, l2, v1, v2, I2⟩
      · refine Or.inl ⟨I1, fun j hj => ?_⟩
        by_cases w : j = i
        · subst w; exact z2
        · exact I2 j (by omega)
      · refine Or.inr (Or.inl ⟨e, he, I1, ⟨j, by omega, hv⟩, fun j' hj' hv' => ?_⟩)
        by_cases w : j' = i
        · subst w; rw [z2] at hv'; cases hv'
        · exact I2 j' (by omega) hv'
      · exact Or.inr (Or.inr ⟨I1, j1, j2, by omega, by omega, v1, v2, I2⟩)
    · rw [bI_n0] at z
      have z2 : V i = true := z
      rw [z2] at ih
      rw [nI_add]
      have hx0 : nI (suN (fun i => b2n (V i)) i) = 0 ↔ suN (fun i => b2n (V i)) i = 0 := by
        rw [← nI_0, nI_eq (by omega) (by decide)]
      have hdi : dgc i < D := hdl i
      rw [hx0]
      refine ⟨fun y => ih h2 _ ff ?_, fun y => ⟨fun w => ih h2 _ ff ?_, fun w => ih h2 _ ff ?_⟩⟩
      · -- the first
        refine Or.inr (Or.inl ⟨dgc i, hdi, rfl, ⟨i, by omega, z2⟩, fun j hj hv => ?_⟩)
        by_cases w : j = i
        · rw [w]
        · exact absurd y (suN_pos.mpr ⟨j, by omega, hv⟩)
      · obtain ⟨j0, hj0, hv0⟩ := suN_pos.mp y
        rcases I with ⟨I1, I2⟩ | ⟨e, he, I1, ⟨j, hj, hv⟩, I2⟩ | ⟨I1, j1, j2, l1, l2, v1, v2, I2⟩
        · rw [I2 j0 hj0] at hv0; cases hv0
        · refine Or.inr (Or.inr ⟨rfl, j, i, by omega, by omega, hv, z2, ?_⟩)
          rw [I2 j hj hv]
          intro q
          exact w (by rw [I1, q])
        · exact Or.inr (Or.inr ⟨rfl, j1, j2, by omega, by omega, v1, v2, I2⟩)
      · obtain ⟨j0, hj0, hv0⟩ := suN_pos.mp y
        rcases I with ⟨I1, I2⟩ | ⟨e, he, I1, ⟨j, hj, hv⟩, I2⟩ | ⟨I1, j1, j2, l1, l2, v1, v2, I2⟩
        · rw [I2 j0 hj0] at hv0; cases hv0
        · have : dgc i = e := by
            rw [I1] at w
            exact (nI_eq (by omega) (by omega)).mp w
          refine Or.inr (Or.inl ⟨e, he, by rw [← this], ⟨j, by omega, hv⟩, fun j' hj' hv' => ?_⟩)
          by_cases w2 : j' = i
          · rw [w2]; exact this
          · exact I2 j' (by omega) hv'
        · rw [I1] at w
          have h1 := nI_toInt (show dgc i < 2 ^ 31 by omega)
          have w' : nI (dgc i) = -2 := w
          rw [w'] at h1
          have h2 : (-2 : Int32).toInt = -2 := by decide
          omega
/-- what k asks, in the way with code j -/
def yB (h : dh_H) (C D k j : Nat) : Bool := decide (k / 6 < C) && decide (k % 6 < D) && tkB h (k / 6) (k % 6) (nI (dd D (C - (k / 6 + 1)) j))
theorem c_next (hCD : C ≤ D) (hN : mN h C D) (hT : TR h C D T)
    (k : ∀ h1, (∀ a, a ≠ 75 → a ≠ 78 → h1 a = h a) → Q (some (.int (bqF C D (nW (ft h T) D C 0 0) (fun k => suN (fun i => b2n (vW (ft h T) D C 0 0 i && yB h C D k i)) (D ^ C)) 36).1)) h1) : dh_J G mX10_next 18 [some (.ref 61), some (.int (nI 0)), some (.int (nI 0)), none, none, none] [] h Q := by
  have hN' := hN
  obtain ⟨eC, hC, eD, hD⟩ := hN'
  have hp := pw6 (D := D) (k := C) hD hC
  let V : Nat → Bool := fun i => vW (ft h T) D C 0 0 i
  let Y : Nat → Nat → Nat := fun i k => suN (fun j => b2n (V j && yB h C D k j)) i
  have nn : nW (ft h T) D C 0 0 = suN (fun i => b2n (V i)) (D ^ C) := (nW_ct C 0 0).symm
  have hYn : ∀ i k, Y i k ≤ suN (fun i => b2n (V i)) i := fun i k => suN_mono (fun j _ => b2n_le (fun z => by rw [Bool.and_eq_true] at z; exact z.1))
  have hsl : ∀ i, suN (fun i => b2n (V i)) i ≤ i := fun i => suN_b _ _
  -- the choice
  have fin : ∀ hh, (∀ a, a ≠ 75 → a ≠ 78 → hh a = h a) → (∀ q, q < 36 → hh 78 q = nI (Y (D ^ C) q)) → dh_J G mX10_next 157 [some (.ref 61), some (.int (nI (suN (fun i => b2n (V i)) (D ^ C)))), some (.int (-1)), some (.int (nI (suN (fun i => b2n (V i)) (D ^ C)))), some (.int (nI 0)), none] [] hh Q := by
    intro hh f hy
    have kk := k hh f
    rw [nn] at kk
    have hal := hsl (D ^ C)
    have hYa := hYn (D ^ C)
    generalize eall : suN (fun i => b2n (V i)) (D ^ C) = all at kk hal hYa ⊢
    have kk' : Q (some (.int (bqF C D all (Y (D ^ C)) 36).1)) hh := kk
    refine dh_up (P := fun q => dh_J G mX10_next 157 [some (.ref 61), some (.int (nI all)), some (.int (bqF C D all (Y (D ^ C)) q).1), some (.int (nI (bqF C D all (Y (D ^ C)) q).2)), some (.int (nI q)), none] [] hh Q) 36 ?_ ?_ 0 (by omega)
    · exact w_X10_next_157 ⟨fun _ => kk', fun z => absurd (Int32.le_refl _) z⟩
    · intro q hq ih
      have hfl := bqF_le C D all (Y (D ^ C)) q
      have hyq := hYa q
      have z0 : ¬ (q / 6 < C ∧ q % 6 < D) → Y (D ^ C) q = 0 := by
        intro z
        refine suN_0 (fun j _ => ?_)
        have : yB h C D q j = false := by
          unfold yB
          by_cases z1 : q / 6 < C
          · have z2 : ¬ q % 6 < D := fun w => z ⟨z1, w⟩
            simp [z2]
          · simp [z1]
        rw [this, Bool.and_false]
        rfl
      have hst : bqF C D all (Y (D ^ C)) (q + 1) = if (bqF C D all (Y (D ^ C)) q).2 ≤ mx2 (Y (D ^ C) q) all then bqF C D all (Y (D ^ C)) q else (nI (10 * (q / 6) + q % 6), mx2 (Y (D ^ C) q) all) := by
        rw [bqF_s]
        by_cases z : q / 6 < C ∧ q % 6 < D
        · rw [if_pos z]
        · rw [if_neg z, z0 z, if_pos]
          unfold mx2
          split <;> omega
      rw [hst] at ih
      refine w_X10_next_157 ?_
      rw [nI_clamp (show q < 2 ^ 31 by omega), hy q hq, pk_sub hyq, pk_rem (show q < 2 ^ 31 by omega) (by decide) (by decide), pk_div (show q < 2 ^ 31 by omega) (by decide) (by decide), pk_mul, nI_add, nI_add]
      generalize Y (D ^ C) q = yy at hyq ih ⊢
      generalize bqF C D all (Y (D ^ C)) q = b at hfl ih ⊢
      have hm : mx2 yy all ≤ all := by unfold mx2; split <;> omega
      rw [nI_leI (by decide) (by omega), nI_leI (by omega) (by omega), nI_leI (by omega) (by omega), nI_leI (by omega) (by omega)]
      have vi := vp_in_nI (show q < 36 from hq) (by decide)
      have n6 : ¬ nI 6 = 0 := by decide
      refine ⟨fun z => by omega, fun _ => ⟨vi, vi, fun z => ⟨vi, fun w => ⟨fun w2 => ?_, fun w2 => absurd w w2⟩, fun w => ⟨n6, n6, fun w2 => absurd w2 w, fun w2 => ?_⟩⟩, fun z => ⟨vi, fun w => ⟨fun w2 => ?_, fun w2 => absurd w w2⟩, fun w => ⟨n6, n6, fun w2 => absurd w2 w, fun w2 => ?_⟩⟩⟩⟩
      · have e : mx2 yy all = all - yy := by unfold mx2; split <;> omega
        rw [e, if_pos w] at ih
        exact ih
      · have e : mx2 yy all = all - yy := by unfold mx2; split <;> omega
        rw [e, if_neg w] at ih
        exact ih
      · have e : mx2 yy all = yy := by unfold mx2; split <;> omega
        rw [e, if_pos w] at ih
        exact ih
      · have e : mx2 yy all = yy := by unfold mx2; split <;> omega
        rw [e, if_neg w] at ih
        exact ih
  -- the codes
  have codes : ∀ hh, (∀ a, a ≠ 75 → a ≠ 78 → hh a = h a) → (∀ q, q < 36 → hh 78 q = nI 0) → dh_J G mX10_next 39 [some (.ref 61), some (.int (nI 0)), some (.int (nI 0)), none, none, none] [] hh Q := by
    intro hh f hy
    refine dh_up (P := fun i => ∀ hh, (∀ a, a ≠ 75 → a ≠ 78 → hh a = h a) → (∀ q, q < 36 → hh 78 q = nI (Y i q)) → dh_J G mX10_next 39 [some (.ref 61), some (.int (nI (suN (fun i => b2n (V i)) i))), some (.int (nI i)), none, none, none] [] hh Q) (D ^ C) ?_ ?_ 0 (by omega) hh f hy
    · intro hh f hy
      exact w_X10_next_39 (c_ownings (mN_cg hN (f 61 (by decide) (by decide))) (w_X10_next_44 ⟨fun _ => fin hh f hy, fun z => absurd (Int32.le_refl _) z⟩))
    · intro i hi ih hh f hy
      refine w_X10_next_39 (c_ownings (mN_cg hN (f 61 (by decide) (by decide))) (w_X10_next_44 ?_))
      rw [nI_leI (by omega) (by omega)]
      refine ⟨fun z => by omega, fun _ => c_layOwning hi hCD (mN_cg hN (f 61 (by decide) (by decide))) (TR_cg hT (f 61 (by decide) (by decide)) (f 73 (by decide) (by decide))) (fun h2 f2 hr => w_X10_next_52 ?_)⟩
      have ff : ∀ a, a ≠ 75 → a ≠ 78 → h2 a = h a := fun a ha hb => (f2 a ha).trans (f a ha hb)
      rw [ft_cg (f 65 (by decide) (by decide)) (f 66 (by decide) (by decide)) (f 73 (by decide) (by decide)), nI_add]
      have es : suN (fun i => b2n (V i)) (i + 1) = suN (fun i => b2n (V i)) i + b2n (V i) := rfl
      have eY : ∀ q, Y (i + 1) q = Y i q + b2n (V i && yB h C D q i) := fun q => rfl
      refine ⟨fun z => ?_, fun z => ?_⟩
      · rw [bI_0] at z
        have z2 : V i = false := z
        rw [es, z2] at ih
        refine ih h2 ff (fun q hq => ?_)
        rw [eY, z2, f2 78 (by decide), hy q hq]
        rfl
      · rw [bI_n0] at z
        have z2 : V i = true := z
        rw [es, z2] at ih
        rw [nI_add]
        refine dh_up (P := fun q => ∀ hh, (∀ a, a ≠ 75 → a ≠ 78 → hh a = h a) → (∀ c, c < C → hh 75 c = nI (dd D (C - (c + 1)) i)) → (∀ q', q' < 36 → hh 78 q' = nI (if q' < q then Y (i + 1) q' else Y i q')) → dh_J G mX10_next 60 [some (.ref 61), some (.int (nI (suN (fun i => b2n (V i)) i + 1))), some (.int (nI i)), some (.int (nI q)), none, none] [] hh Q) 36 ?_ ?_ 0 (by omega) h2 ff hr (fun q' hq' => by rw [if_neg (by omega), f2 78 (by decide)]; exact hy q' hq')
        · intro hh f hr hy
          refine w_X10_next_60 ⟨fun _ => ?_, fun z => absurd (Int32.le_refl _) z⟩
          rw [nI_add]
          refine ih hh f (fun q hq => ?_)
          rw [hy q hq, if_pos hq]
        · intro q hq ih2 hh f hr hy
          have vi := vp_in_nI (show q < 36 from hq) (by decide)
          have n6 : ¬ nI 6 = 0 := by decide
          -- the count goes up by b
          have up : ∀ b : Bool, b = yB h C D q i → dh_J G mX10_next 60 [some (.ref 61), some (.int (nI (suN (fun i => b2n (V i)) i + 1))), some (.int (nI i)), some (.int (nI q + nI 1)), none, none] [] (dh_s hh 78 (nI q).toNatClampNeg ((hh 78 (nI q).toNatClampNeg) + bI b)) Q := by
            intro b eb
            rw [nI_add, nI_clamp (by omega), hy q hq, if_neg (by omega)]
            refine ih2 _ (fun a h1 h2 => by rw [dh_s_n h2]; exact f a h1 h2) (fun c hc => by rw [dh_s_n (by decide)]; exact hr c hc) (fun q' hq' => ?_)
            by_cases w : q' = q
            · subst w
              rw [dh_s_eq, if_pos (by omega), eY, z2, ← eb, Bool.true_and]
              cases b
              · exact nI_add _ _
              · exact nI_add _ _
            · rw [dh_s_nk w, hy q' hq']
              by_cases w2 : q' < q
              · rw [if_pos w2, if_pos (by omega)]
              · rw [if_neg w2, if_neg (by omega)]
          have out : ¬ (q / 6 < C ∧ q % 6 < D) → yB h C D q i = false := by
            intro z
            unfold yB
            by_cases z1 : q / 6 < C
            · have z3 : ¬ q % 6 < D := fun w => z ⟨z1, w⟩
              simp [z3]
            · simp [z1]
          refine w_X10_next_60 ?_
          rw [f 61 (by decide) (by decide), eC, eD, pk_rem (show q < 2 ^ 31 by omega) (by decide) (by decide), pk_div (show q < 2 ^ 31 by omega) (by decide) (by decide), nI_leI (by decide) (by omega), nI_leI (by omega) (by omega), nI_leI (by omega) (by omega)]
          refine ⟨fun z => by omega, fun _ => ⟨n6, fun z => ⟨vi, fun _ => ⟨vi, up false (out (by omega)).symm⟩, fun w => absurd rfl w⟩, fun z => ⟨n6, fun w => ⟨vi, fun _ => ⟨vi, up false (out (by omega)).symm⟩, fun w2 => absurd rfl w2⟩, fun w => ⟨n6, n6, n6, vp_in_nI (by omega) (by decide), ?_⟩⟩⟩⟩
          have hc6 : q / 6 < C := by omega
          have hd6 : q % 6 < D := by omega
          have hdl : dd D (C - (q / 6 + 1)) i < D := Nat.mod_lt _ (by omega)
          rw [nI_clamp (show q / 6 < 2 ^ 31 by omega), hr _ hc6]
          refine c_takesBy (by omega) (by omega) (Or.inr ⟨_, by omega, rfl⟩) ?_
          rw [tkB_cg (f 65 (by decide) (by decide)) (f 66 (by decide) (by decide))]
          have ey : yB h C D q i = tkB h (q / 6) (q % 6) (nI (dd D (C - (q / 6 + 1)) i)) := by unfold yB; simp [hc6, hd6]
          refine w_X10_next_109 ⟨fun z => ⟨vi, fun _ => ⟨vi, up false ?_⟩, fun w2 => absurd rfl w2⟩, fun z => ⟨vi, fun w2 => absurd w2 (by decide), fun _ => ⟨vi, up true ?_⟩⟩⟩
          · rw [bI_0] at z
            rw [ey, z]
          · rw [bI_n0] at z
            rw [ey, z]
  refine dh_up (P := fun q => ∀ hh, (∀ a, a ≠ 75 → a ≠ 78 → hh a = h a) → (∀ q', q' < q → hh 78 q' = nI 0) → dh_J G mX10_next 18 [some (.ref 61), some (.int (nI 0)), some (.int (nI q)), none, none, none] [] hh Q) 36 ?_ ?_ 0 (by omega) h (fun _ _ _ => rfl) (fun q' hq' => by omega)
  · intro hh f hy
    exact w_X10_next_18 ⟨fun _ => codes hh f hy, fun z => absurd (Int32.le_refl _) z⟩
  · intro q hq ih hh f hy
    refine w_X10_next_18 ?_
    rw [nI_leI (by decide) (by omega), nI_add, nI_clamp (by omega)]
    refine ⟨fun z => by omega, fun _ => ⟨vp_in_nI hq (by decide), ih _ (fun a h1 h2 => by rw [dh_s_n h2]; exact f a h1 h2) (fun q' hq' => ?_)⟩⟩
    by_cases w : q' = q
    · subst w; rw [dh_s_eq]
    · rw [dh_s_nk w]; exact hy q' (by omega)
theorem RR_rd {h h1 h2 : dh_H} (R : RR h h C D) (f : fK h h1) (f2 : ∀ a, a ≠ 75 → a ≠ 78 → h2 a = h1 a) : RR h2 h2 C D := by
  have ff : ∀ a, a ≠ 75 → a ≠ 78 → a ≠ 37 → ¬ (41 ≤ a ∧ a ≤ 43) → ¬ (45 ≤ a ∧ a ≤ 50) → h2 a = h a := fun a x1 x2 x3 x4 x5 => (f2 a x1 x2).trans (f.1 a x3 x4 x5)
  refine RR_scr (fun a ha => ?_) ?_ ?_ ?_ (fun k _ => ?_) R
  · unfold kpt at ha
    exact ff a (by omega) (by omega) (by omega) (by omega) (by omega)
  · rw [ff 1 (by decide) (by decide) (by decide) (by omega) (by omega)]
  · rw [ff 1 (by decide) (by decide) (by decide) (by omega) (by omega)]
  · rw [f2 37 (by decide) (by decide)]
    exact f.2
  · rw [ff 61 (by decide) (by decide) (by decide) (by omega) (by omega)]
theorem TR_of (R : RI h h C D T) : TR h C D T := ⟨R.2.1, R.2.2.1, fun k hk => (R.2.2.2 k hk).2.2.2⟩
theorem sim_whose {x : Int32} (I : Inv h) : SM G mX9_whose mX10_whose [.int x] h := by
  have J := I
  obtain ⟨C, D, R⟩ := I
  have R' := R
  obtain ⟨r1, r2, -, -, -, -, -, ⟨T, r8⟩, -, -⟩ := R'
  have hN := r1
  obtain ⟨eC, hC, eD, hD⟩ := hN
  have hle : nI C ≤ nI D ↔ C ≤ D := nI_leI (by omega) (by omega)
  have k61 : ∀ h1, fK h h1 → h1 61 = h 61 := fun h1 f => f.1 61 (by decide) (by omega) (by omega)
  have k73 : ∀ h1, fK h h1 → h1 73 = h 73 := fun h1 f => f.1 73 (by decide) (by omega) (by omega)
  have kft : ∀ h1, fK h h1 → ft h1 T = ft h T := fun h1 f => ft_cg (f.1 65 (by decide) (by omega) (by omega)) (f.1 66 (by decide) (by omega) (by omega)) (k73 h1 f)
  refine e_X9_whose ?_
  rw [r2.1, r2.2.2.1, hle]
  refine ⟨fun q => ⟨fun hCD => d_solve r2 r8 (fun h1 f S => w_X9_whose_46 ⟨fun z => absurd q z, fun _ => w_X9_whose_69 ⟨_, rfl, ?_⟩⟩), fun hCD => ⟨_, rfl, ?_⟩⟩, fun q => d_hasChild r2.1 hC (w_X9_whose_13 ?_)⟩
  · subst q
    refine e_X10_whose ?_
    rw [k61 h1 f, eC, eD, hle]
    refine ⟨fun _ => ⟨fun _ => c_whose_n hCD (mN_cg r1 (k61 h1 f)) (TR_cg (TR_of r8) (k61 h1 f) (k73 h1 f)) (fun h2 f2 => ⟨?_, C, D, RR_rd R f (fun a ha _ => f2 a ha)⟩), fun z => absurd hCD z⟩, fun z => absurd rfl z⟩
    rw [S.2.2.1, kft h1 f]
  · subst q
    refine e_X10_whose ?_
    rw [eC, eD, hle]
    exact ⟨fun _ => ⟨fun z => absurd z hCD, fun _ => ⟨rfl, J⟩⟩, fun z => absurd rfl z⟩
  · rw [r2.1, r2.2.2.1, hle]
    refine ⟨fun z => ?_, fun z => ⟨_, rfl, ?_⟩⟩
    · rw [bI_n0] at z
      obtain ⟨c, hc, e⟩ := ixB_of (by omega) z
      subst e
      refine ⟨fun hCD => d_solve r2 r8 (fun h1 f S => w_X9_whose_46 ⟨fun _ => d_sureDummyOf hC hD hc S (w_X9_whose_69 ⟨_, rfl, ?_⟩), fun y => absurd y q⟩), fun hCD => ⟨_, rfl, ?_⟩⟩
      · refine e_X10_whose ⟨fun y => absurd y q, fun _ => c_isChild (mN_cg r1 (k61 h1 f)) (w_X10_whose_10 ?_)⟩
        rw [k61 h1 f, eC, eD, hle]
        refine ⟨fun _ => ⟨fun _ => c_whose_c hCD hc (mN_cg r1 (k61 h1 f)) (TR_cg (TR_of r8) (k61 h1 f) (k73 h1 f)) (fun h2 f2 => ⟨?_, C, D, RR_rd R f (fun a ha _ => f2 a ha)⟩), fun y => absurd hCD y⟩, fun y => ?_⟩
        · rw [kft h1 f]
        · rw [bI_0, z] at y
          cases y
      · refine e_X10_whose ⟨fun y => absurd y q, fun _ => c_isChild r1 (w_X10_whose_10 ?_)⟩
        rw [eC, eD, hle]
        refine ⟨fun _ => ⟨fun y => absurd y hCD, fun _ => ⟨rfl, J⟩⟩, fun y => ?_⟩
        rw [bI_0, z] at y
        cases y
    · rw [bI_0] at z
      refine e_X10_whose ⟨fun y => absurd y q, fun _ => c_isChild r1 (w_X10_whose_10 ⟨fun y => ?_, fun _ => ⟨rfl, J⟩⟩)⟩
      rw [bI_n0, z] at y
      cases y
theorem sim_next (I : Inv h) : SM G mX9_next mX10_next [] h := by
  have J := I
  obtain ⟨C, D, R⟩ := I
  have R' := R
  obtain ⟨r1, r2, -, -, -, -, -, ⟨T, r8⟩, -, -⟩ := R'
  have hN := r1
  obtain ⟨eC, hC, eD, hD⟩ := hN
  have hle : nI C ≤ nI D ↔ C ≤ D := nI_leI (by omega) (by omega)
  have k61 : ∀ h1, fK h h1 → h1 61 = h 61 := fun h1 f => f.1 61 (by decide) (by omega) (by omega)
  have k73 : ∀ h1, fK h h1 → h1 73 = h 73 := fun h1 f => f.1 73 (by decide) (by omega) (by omega)
  have kft : ∀ h1, fK h h1 → ft h1 T = ft h T := fun h1 f => ft_cg (f.1 65 (by decide) (by omega) (by omega)) (f.1 66 (by decide) (by omega) (by omega)) (k73 h1 f)
  refine e_X9_next ?_
  rw [r2.1, r2.2.2.1, hle]
  refine ⟨fun hCD => d_solve r2 r8 (fun h1 f S => w_X9_next_27 (d_bestQuestion (PR_fK r2 f) S (w_X9_next_34 ⟨_, rfl, ?_⟩))), fun hCD => ⟨_, rfl, ?_⟩⟩
  · refine e_X10_next ?_
    rw [k61 h1 f, eC, eD, hle]
    refine ⟨fun _ => c_next hCD (mN_cg r1 (k61 h1 f)) (TR_cg (TR_of r8) (k61 h1 f) (k73 h1 f)) (fun h2 f2 => ⟨?_, C, D, RR_rd R f f2⟩), fun z => absurd hCD z⟩
    rw [kft h1 f]
    congr 3
    refine bqF_cg (fun k k1 k2 => ?_) 36
    rw [yS_ct k1 (by omega)]
    refine suN_cg (fun i _ => ?_)
    unfold yB
    rw [tkB_cg (f.1 65 (by decide) (by omega) (by omega)) (f.1 66 (by decide) (by omega) (by omega))]
    simp [k1, k2]
  · refine e_X10_next ?_
    rw [eC, eD, hle]
    exact ⟨fun z => absurd z hCD, fun _ => ⟨rfl, J⟩⟩
end S10
