/-! the model's laying out of all ways; the pairs mostCalm and spares -/
theorem pwB {D k : Nat} (hD : D ≤ 6) (hk : k ≤ 6) : (D + 1) ^ k ≤ 117649 := Nat.le_trans (Nat.pow_le_pow_left (show D + 1 ≤ 7 by omega) k) (Nat.pow_le_pow_right (n := 7) (by decide) hk)
theorem mB_lt {ok : Nat → Nat → Bool} {D k c m i : Nat} (hD : D ≤ 6) (hm : m < 64) : (mB ok D k c m i).2.1 < 64 := by
  induction k generalizing c with
  | zero => exact hm
  | succ k ih =>
    unfold mB
    by_cases q : dg D k i < D
    · rw [if_pos q]
      exact bt_lt ih (by omega)
    · rw [if_neg q]
      exact ih
theorem mB_k {ok : Nat → Nat → Bool} {D k c m i : Nat} : (mB ok D k c m i).2.2 ≤ k := by
  induction k generalizing c with
  | zero => exact Nat.le_refl _
  | succ k ih =>
    unfold mB
    by_cases q : dg D k i < D
    · rw [if_pos q]
      have := ih (c := c + 1)
      show _ + 1 ≤ k + 1
      omega
    · rw [if_neg q]
      have := ih (c := c + 1)
      omega
section MM
variable {G : dh_G} {h : dh_H} {C D : Nat} {Q : Option Value → dh_H → Prop} {ok : Nat → Nat → Bool}
theorem okB_cg {h h1 : dh_H} (f : ∀ a, 65 ≤ a → a ≤ 68 → h1 a = h a) (s : Bool) (c d : Nat) : okB h1 C s c d = okB h C s c d := by
  unfold okB tk tkB inf cold
  rw [f 65 (by omega) (by omega), f 66 (by omega) (by omega), f 67 (by omega) (by omega), f 68 (by omega) (by omega)]
theorem c_isSafe {c d : Nat} (hN : mN h C D) (hc : c < C) (hd : d < D) (k : Q (some (.int (bI (!inf h C d c)))) h) : dh_C G mX10_isSafe [.ref 61, .int (nI c), .int (nI d)] h Q := by
  have hN' := hN
  obtain ⟨-, hC, -, hD⟩ := hN'
  refine e_X10_isSafe ?_
  simp (disch := omega) only [nI_add, nI_clamp]
  refine ⟨vp_in_nI (by omega) (by omega), fun z => ?_, fun z => ⟨vp_in_nI (by omega) (by omega), c_coldOnes hN (w_X10_isSafe_25 ⟨fun y => ?_, fun y => ?_⟩)⟩⟩
  · have e : cold h c = true := by
      unfold cold
      have : ¬ h 68 (7 + c) ≤ 0 := by rw [Int32.not_le]; exact z
      simp [this]
    have e2 : inf h C d c = false := by unfold inf; rw [e]; rfl
    rw [e2] at k
    exact k
  · have e : cold h c = false := by
      unfold cold
      have : h 68 (7 + c) ≤ 0 := by rw [← Int32.not_lt]; exact z
      simp [this]
    have e2 : inf h C d c = true := by unfold inf; rw [e]; simp [y]
    rw [e2] at k
    exact k
  · have e2 : inf h C d c = false := by unfold inf; simp [y]
    rw [e2] at k
    exact k
theorem c_layCalm {x : Int32} {b : Nat} (hb : b < 64) (hN : mN h C D) (hO : mO h C D)
    (k : ∀ h1, (∀ a, a ≠ 75 → a ≠ 76 → h1 a = h a) → (∀ c, c < C → h1 76 c = dI D (dg D (C - (c + 1)) (mC (okB h C (!decide (x = 0))) D C 0 b))) → Q (some (.int (nI (mF (okB h C (!decide (x = 0))) D C 0 b)))) h1) : dh_C G mX10_layCalm [.ref 61, .int x, .int (nI b)] h Q := by
  generalize es : (!decide (x = 0)) = s at k
  have hok : ∀ hh, (∀ a, a ≠ 75 → a ≠ 76 → hh a = h a) → ∀ c d, okB hh C s c d = okB h C s c d := fun hh f c d => okB_cg (fun a h1 h2 => f a (by omega) (by omega)) s c d
  have hNN : ∀ hh, (∀ a, a ≠ 75 → a ≠ 76 → hh a = h a) → mN hh C D := fun hh f => by unfold mN at hN ⊢; rw [f 61 (by decide) (by decide)]; exact hN
  have hOO : ∀ hh, (∀ a, a ≠ 75 → a ≠ 76 → hh a = h a) → mO hh C D := fun hh f => by unfold mO at hO ⊢; rw [f 67 (by decide) (by decide)]; exact hO
  have hN' := hN
  obtain ⟨eC, hC, eD, hD⟩ := hN'
  have hpC := pwB (D := D) (k := C) hD hC
  generalize hokg : okB h C s = ok at k hok
  -- what is known behind i codes
  let BI : Nat → Int32 → dh_H → Prop := fun i x5 hh => (x5 = -1 ∧ ∀ j, j < i → mL ok D C 0 b j = none) ∨ (∃ v bc, x5 = nI v ∧ v ≤ 6 ∧ bc < i ∧ mL ok D C 0 b bc = some v ∧ (∀ j w, j < i → mL ok D C 0 b j = some w → w ≤ v) ∧ (∀ j w, j < bc → mL ok D C 0 b j = some w → w < v) ∧ ∀ c, c < C → hh 76 c = dI D (dg D (C - (c + 1)) bc))
  -- the codes
  have codes : ∀ hh, (∀ a, a ≠ 75 → a ≠ 76 → hh a = h a) → dh_J G mX10_layCalm 39 [some (.ref 61), some (.int x), some (.int (nI b)), some (.int (nI ((D + 1) ^ C))), some (.int (nI (D + 1))), some (.int (-1)), some (.int (nI 0)), none, none, none, none, none, none] [] hh Q := by
    intro hh f
    refine dh_up (P := fun i => ∀ hh x5, (∀ a, a ≠ 75 → a ≠ 76 → hh a = h a) → BI i x5 hh → dh_J G mX10_layCalm 39 [some (.ref 61), some (.int x), some (.int (nI b)), some (.int (nI ((D + 1) ^ C))), some (.int (nI (D + 1))), some (.int x5), some (.int (nI i)), none, none, none, none, none, none] [] hh Q) ((D + 1) ^ C) ?_ ?_ 0 (by omega) hh (-1) f (Or.inl ⟨rfl, fun j hj => by omega⟩)
    · intro hh x5 f B
      refine w_X10_layCalm_39 ⟨fun _ => ?_, fun z => absurd (Int32.le_refl _) z⟩
      have hg := mC_lt (ok := ok) (D := D) C 0 b
      have hLg := mL_C (ok := ok) (D := D) C 0 b
      rcases B with ⟨-, B⟩ | ⟨v, bc, B1, B2, B3, B4, B5, B6, B7⟩
      · rw [B _ hg] at hLg
        cases hLg
      · have e1 : v = mF ok D C 0 b := by
          have h1 := mL_F C 0 b bc v B4
          have h2 := B5 _ _ hg hLg
          omega
        have e2 : bc = mC ok D C 0 b := by
          rcases Nat.lt_trichotomy bc (mC ok D C 0 b) with z | z | z
          · have := mL_lt C 0 b bc v (by rw [Nat.mod_eq_of_lt B3]; exact z) B4
            omega
          · exact z
          · have := B6 _ _ z hLg
            omega
        rw [B1, e1]
        refine k hh f ?_
        rw [← e2]
        exact B7
    · intro i hi ih hh x5 f B
      refine w_X10_layCalm_39 ?_
      rw [f 61 (by decide) (by decide), eC, nI_leI (by omega) (by omega)]
      refine ⟨fun z => by omega, fun _ => ?_⟩
      have next : ∀ hh x5, (∀ a, a ≠ 75 → a ≠ 76 → hh a = h a) → BI (i + 1) x5 hh → dh_J G mX10_layCalm 213 [some (.ref 61), some (.int x), some (.int (nI b)), some (.int (nI ((D + 1) ^ C))), some (.int (nI (D + 1))), some (.int x5), some (.int (nI i)), none, none, none, none, none, none] [] hh Q := fun hh x5 f B => w_X10_layCalm_213 (by rw [nI_add]; exact ih hh x5 f B)
      -- the children, from the last on
      have key := dh_up (P := fun t => ∀ hh, (∀ a, a ≠ 75 → a ≠ 76 → hh a = h a) → BI i x5 hh → (∀ c, C - t ≤ c → c < C → hh 75 c = dI D (dg D (C - (c + 1)) i)) → dh_J G mX10_layCalm 66 [some (.ref 61), some (.int x), some (.int (nI b)), some (.int (nI ((D + 1) ^ C))), some (.int (nI (D + 1))), some (.int x5), some (.int (nI i)), some (.int (nI (i / (D + 1) ^ t))), some (.int (nI (mB ok D t (C - t) b i).2.1)), some (.int (nI (mB ok D t (C - t) b i).2.2)), some (.int (bI (mB ok D t (C - t) b i).1)), some (.int (nI (C - t) - nI 1)), none] [] hh Q) C ?_ ?_ 0 (by omega) hh f B (fun c h1 h2 => by omega)
      · rw [Nat.pow_zero, Nat.div_one] at key
        exact key
      · intro hh f B hr
        rw [Nat.sub_self] at hr ⊢
        have hmk := mB_k (ok := ok) (D := D) (k := C) (c := 0) (m := b) (i := i)
        have hLB := mL_mB (ok := ok) (D := D) C 0 b i
        generalize mB ok D C 0 b i = r at hmk hLB ⊢
        refine w_X10_layCalm_66 ⟨fun _ => ⟨fun z => next hh x5 f ?_, fun z => ?_⟩, fun z => absurd (by decide) z⟩
        · rw [bI_0] at z
          rw [z, if_neg (by decide)] at hLB
          rcases B with ⟨B1, B2⟩ | ⟨v, bc, B1, B2, B3, B4, B5, B6, B7⟩
          · refine Or.inl ⟨B1, fun j hj => ?_⟩
            by_cases y : j = i
            · subst y; exact hLB
            · exact B2 j (by omega)
          · refine Or.inr ⟨v, bc, B1, B2, by omega, B4, fun j w hj hw => ?_, B6, B7⟩
            by_cases y : j = i
            · subst y; rw [hLB] at hw; cases hw
            · exact B5 j w (by omega) hw
        · rw [bI_n0] at z
          rw [z, if_pos rfl] at hLB
          have better : (∀ j w, j < i → mL ok D C 0 b j = some w → w < r.2.2) → dh_C G mX10_bring [.ref 75, .int (nI 0), .ref 76, .int (nI 0), .int (nI 6)] hh (fun v h1 => dh_J G mX10_layCalm 213 [some (.ref 61), some (.int x), some (.int (nI b)), some (.int (nI ((D + 1) ^ C))), some (.int (nI (D + 1))), some (.int (nI r.2.2)), some (.int (nI i)), none, none, none, none, none, none] (v.toList ++ []) h1 Q) := by
            intro hlt
            refine c_bring_75_76 (by decide) (by decide) (next _ _ (fun a h1 h2 => by rw [dh_c_n h2]; exact f a h1 h2) (Or.inr ⟨r.2.2, i, rfl, by omega, by omega, hLB, fun j w hj hw => ?_, hlt, fun c hc => ?_⟩))
            · by_cases y : j = i
              · subst y; rw [hLB] at hw; cases hw; exact Nat.le_refl _
              · exact Nat.le_of_lt (hlt j w (by omega) hw)
            · rw [dh_c_i, pk_cpy_in (by omega) (by omega), show 0 + (c - 0) = c by omega]
              exact hr c (by omega) hc
          rcases B with ⟨B1, B2⟩ | ⟨v, bc, B1, B2, B3, B4, B5, B6, B7⟩
          · subst B1
            refine ⟨fun y => ?_, fun _ => better (fun j w hj hw => ?_)⟩
            · rw [Int32.le_iff_toInt_le, nI_toInt (by omega)] at y
              have : (-1 : Int32).toInt = -1 := by decide
              omega
            · rw [B2 j hj] at hw
              cases hw
          · subst B1
            rw [nI_leI (by omega) (by omega)]
            refine ⟨fun y => next hh _ f (Or.inr ⟨v, bc, rfl, B2, by omega, B4, fun j w hj hw => ?_, B6, B7⟩), fun y => better (fun j w hj hw => ?_)⟩
            · by_cases y2 : j = i
              · subst y2; rw [hLB] at hw; cases hw; exact y
              · exact B5 j w (by omega) hw
            · have := B5 j w hj hw
              omega
      · intro t ht ih2 hh f B hr
        have hN1 := hNN hh f
        have hit : i / (D + 1) ^ t ≤ i := Nat.div_le_self _ _
        have hmk := mB_k (ok := ok) (D := D) (k := t) (c := C - t) (m := b) (i := i)
        have hml := mB_lt (ok := ok) (D := D) (k := t) (c := C - t) (m := b) (i := i) hD hb
        have hdl := dg_le (D := D) t i
        have eMB : mB ok D (t + 1) (C - (t + 1)) b i = if dg D t i < D then ((mB ok D t (C - t) b i).1 && fr ok (C - (t + 1)) (mB ok D t (C - t) b i).2.1 (dg D t i), bt (mB ok D t (C - t) b i).2.1 (dg D t i), (mB ok D t (C - t) b i).2.2 + 1) else mB ok D t (C - t) b i := by
          show (if dg D t i < D then _ else _) = _
          rw [show C - (t + 1) + 1 = C - t by omega]
        have e11 : nI (C - t) - nI 1 = nI (C - (t + 1)) := by rw [pk_sub (by omega)]; rfl
        have e11' : nI (C - (t + 1)) + (-1 : Int32) = nI (C - (t + 1)) - nI 1 := by rw [Int32.sub_eq_add_neg]; rfl
        have e7 : nI (i / (D + 1) ^ t) / nI (D + 1) = nI (i / (D + 1) ^ (t + 1)) := by
          rw [pk_div (by omega) (by omega) (by omega), Nat.div_div_eq_div_mul, Nat.pow_succ]
        have e7r : nI (i / (D + 1) ^ t) - nI (i / (D + 1) ^ (t + 1)) * nI (D + 1) = nI (dg D t i) := by
          rw [← e7, pk_rem (by omega) (by omega) (by omega)]
          rfl
        have row : ∀ hh2 : dh_H, (∀ a, a ≠ 75 → hh2 a = hh a) → (∀ c, c ≠ C - (t + 1) → hh2 75 c = hh 75 c) → hh2 75 (C - (t + 1)) = dI D (dg D t i) → ∀ c, C - (t + 1) ≤ c → c < C → hh2 75 c = dI D (dg D (C - (c + 1)) i) := by
          intro hh2 _ g1 g2 c h1 h2
          by_cases y : c = C - (t + 1)
          · rw [y, g2]
            rw [show C - (C - (t + 1) + 1) = t by omega]
          · rw [g1 c y]
            exact hr c (by omega) h2
        generalize mB ok D t (C - t) b i = r at hmk hml eMB
        refine w_X10_layCalm_66 ?_
        rw [f 61 (by decide) (by decide), eD, e11, e7, e7r, e11', nI_clamp (show C - (t + 1) < 2 ^ 31 by omega), nI_eq (by omega) (by omega), nI_leI (by omega) (by omega)]
        generalize dg D t i = a at hdl eMB row
        refine ⟨fun z => absurd z (nI_pos (by omega)), fun _ => ⟨nI_ne0 (by omega) (by omega), nI_ne0 (by omega) (by omega), fun z => ⟨vp_in_nI (by omega) (by decide), fun y => by omega, fun y => ?_⟩, fun z => ⟨vp_in_nI (by omega) (by decide), fun y => ?_, fun y => by omega⟩⟩⟩
        · have ha : a < D := by omega
          rw [if_pos ha] at eMB
          rw [eMB] at ih2
          dsimp only at ih2
          have fh2 : ∀ q, q ≠ 75 → q ≠ 76 → dh_s hh 75 (C - (t + 1)) (nI a) q = h q := fun q h1 h2 => by rw [dh_s_n h1]; exact f q h1 h2
          have go : ∀ bb : Bool, bb = (r.1 && fr ok (C - (t + 1)) r.2.1 a) → dh_J G mX10_layCalm 66 [some (.ref 61), some (.int x), some (.int (nI b)), some (.int (nI ((D + 1) ^ C))), some (.int (nI (D + 1))), some (.int x5), some (.int (nI i)), some (.int (nI (i / (D + 1) ^ (t + 1)))), some (.int (nI r.2.1 ||| ((nI 1) <<< (nI a &&& 31)))), some (.int (nI r.2.2 + nI 1)), some (.int (bI bb)), some (.int (nI (C - (t + 1)) - nI 1)), none] [] (dh_s hh 75 (C - (t + 1)) (nI a)) Q := by
            intro bb eb
            subst eb
            rw [nI_add, nIbt hml (by omega)]
            refine ih2 _ fh2 ?_ (row _ (fun q hq => by rw [dh_s_n hq]) (fun c hc => by rw [dh_s_nk hc]) (by rw [dh_s_eq]; unfold dI; rw [if_pos ha]))
            rcases B with B | ⟨v, bc, B1, B2, B3, B4, B5, B6, B7⟩
            · exact Or.inl B
            · exact Or.inr ⟨v, bc, B1, B2, B3, B4, B5, B6, B7⟩
          refine ⟨fun w => go false ?_, fun w => c_has ?_⟩
          · rw [bI_0] at w
            rw [w]
            rfl
          · rw [bI_n0] at w
            rw [has_nI hml (by omega)]
            refine w_X10_layCalm_128 ⟨fun w2 => ?_, fun w2 => ?_⟩
            · rw [e11']
              refine go false ?_
              rw [bI_n0] at w2
              unfold fr
              rw [w2]
              simp
            · rw [bI_0] at w2
              have hO2 := hOO _ fh2
              have hN2 := hNN _ fh2
              refine c_takes hN2 hO2 (by omega) ha (w_X10_layCalm_139 ⟨fun w3 => ?_, fun w3 => ⟨fun w4 => ?_, fun w4 => ?_⟩⟩)
              · rw [e11']
                refine go false ?_
                rw [bI_0] at w3
                have e := hok _ fh2 (C - (t + 1)) a
                unfold okB at e
                rw [w3] at e
                unfold fr
                rw [← e]
                simp
              · rw [e11']
                refine go true ?_
                rw [bI_n0] at w3
                have hs : s = false := by rw [← es, w4]; rfl
                have e := hok _ fh2 (C - (t + 1)) a
                unfold okB at e
                rw [w3, hs] at e
                unfold fr
                rw [← e, w, w2]
                rfl
              · rw [bI_n0] at w3
                have hs : s = true := by rw [← es]; simp [w4]
                have e := hok _ fh2 (C - (t + 1)) a
                unfold okB at e
                rw [w3, hs] at e
                refine c_isSafe hN2 (by omega) ha (w_X10_layCalm_154 ⟨fun w5 => ?_, fun w5 => ?_⟩)
                · rw [e11']
                  refine go false ?_
                  rw [bI_0] at w5
                  unfold fr
                  rw [← e]
                  simp only [Bool.true_and]
                  rw [w5]
                  simp
                · rw [e11']
                  refine go true ?_
                  rw [bI_n0] at w5
                  unfold fr
                  rw [← e, w, w2]
                  simp only [Bool.true_and]
                  rw [w5]
                  rfl
        · have ha : ¬ a < D := by omega
          rw [if_neg ha] at eMB
          rw [eMB] at ih2
          refine ih2 _ (fun q h1 h2 => by rw [dh_s_n h1]; exact f q h1 h2) ?_ (row _ (fun q hq => by rw [dh_s_n hq]) (fun c hc => by rw [dh_s_nk hc]) (by rw [dh_s_eq]; unfold dI; rw [if_neg ha]))
          rcases B with B | ⟨v, bc, B1, B2, B3, B4, B5, B6, B7⟩
          · exact Or.inl B
          · exact Or.inr ⟨v, bc, B1, B2, B3, B4, B5, B6, B7⟩
  refine e_X10_layCalm ?_
  rw [eD, nI_add]
  refine dh_up (P := fun c => dh_J G mX10_layCalm 13 [some (.ref 61), some (.int x), some (.int (nI b)), some (.int (nI ((D + 1) ^ c))), some (.int (nI (D + 1))), some (.int (nI c)), none, none, none, none, none, none, none] [] h Q) C ?_ ?_ 0 (by omega)
  · refine w_X10_layCalm_13 ?_
    rw [eC]
    exact ⟨fun _ => codes h (fun _ _ _ => rfl), fun z => absurd (Int32.le_refl _) z⟩
  · intro c hc ih
    refine w_X10_layCalm_13 ?_
    rw [eC, nI_leI (by omega) (by omega), pk_mul, nI_add]
    refine ⟨fun z => by omega, fun _ => ?_⟩
    rw [Nat.pow_succ] at ih
    exact ih
end MM
