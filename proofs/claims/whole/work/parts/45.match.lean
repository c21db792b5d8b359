/-! which to whom so that most are calm: pure -/
def bt (m d : Nat) : Nat := m ||| 2 ^ d
theorem bt_t (m d e : Nat) : Nat.testBit (bt m d) e = (Nat.testBit m e || decide (e = d)) := by
  unfold bt
  rw [Nat.testBit_or, Nat.testBit_two_pow]
  by_cases h : d = e
  · subst h; simp
  · have : ¬ e = d := fun z => h z.symm
    simp [h, this]
theorem bt_lt {m d : Nat} (hm : m < 64) (hd : d < 6) : bt m d < 64 := by
  unfold bt
  refine Nat.or_lt_two_pow (n := 6) hm ?_
  exact Nat.pow_lt_pow_right (by decide) hd
/-- the first of n for which p holds, or n -/
def fsN (p : Nat → Bool) : Nat → Nat
  | 0 => 0
  | n + 1 => if fsN p n < n then fsN p n else if p n then n else n + 1
theorem fsN_le (p : Nat → Bool) (n : Nat) : fsN p n ≤ n := by
  induction n with
  | zero => exact Nat.le_refl _
  | succ n ih =>
    unfold fsN
    split
    · omega
    · split <;> omega
theorem fsN_t (p : Nat → Bool) (n : Nat) (h : fsN p n < n) : p (fsN p n) = true := by
  induction n with
  | zero => omega
  | succ n ih =>
    unfold fsN at h ⊢
    by_cases q : fsN p n < n
    · rw [if_pos q]; exact ih q
    · rw [if_neg q] at h ⊢
      by_cases q2 : p n = true
      · rw [if_pos q2]; exact q2
      · rw [if_neg q2] at h; omega
theorem fsN_f (p : Nat → Bool) (n e : Nat) (h : e < fsN p n) : p e = false := by
  induction n with
  | zero => unfold fsN at h; omega
  | succ n ih =>
    unfold fsN at h
    by_cases q : fsN p n < n
    · rw [if_pos q] at h; exact ih h
    · rw [if_neg q] at h
      have hl := fsN_le p n
      by_cases q2 : p n = true
      · rw [if_pos q2] at h; exact ih (by omega)
      · rw [if_neg q2] at h
        by_cases q3 : e = n
        · subst q3; simpa using q2
        · exact ih (by omega)
theorem fsN_is {p : Nat → Bool} {n d : Nat} (hd : d < n) (h1 : p d = true) (h2 : ∀ e, e < d → p e = false) : fsN p n = d := by
  rcases Nat.lt_trichotomy (fsN p n) d with h | h | h
  · have := fsN_t p n (by omega)
    rw [h2 _ h] at this
    cases this
  · exact h
  · have := fsN_f p n d h
    rw [h1] at this
    cases this
theorem fsN_no {p : Nat → Bool} {n : Nat} (h2 : ∀ e, e < n → p e = false) : fsN p n = n := by
  have hl := fsN_le p n
  by_cases h : fsN p n < n
  · have := fsN_t p n h
    rw [h2 _ h] at this
    cases this
  · omega
/-- the largest of b and those v d with p d, d < n -/
def mxG (p : Nat → Bool) (v : Nat → Nat) (b : Nat) : Nat → Nat
  | 0 => b
  | d + 1 => if p d then (if mxG p v b d < v d then v d else mxG p v b d) else mxG p v b d
theorem mxG_b (p : Nat → Bool) (v : Nat → Nat) (b n : Nat) : b ≤ mxG p v b n := by
  induction n with
  | zero => exact Nat.le_refl _
  | succ n ih =>
    unfold mxG
    split
    · split <;> omega
    · exact ih
theorem mxG_v {p : Nat → Bool} (v : Nat → Nat) (b : Nat) {n d : Nat} (hd : d < n) (h : p d = true) : v d ≤ mxG p v b n := by
  induction n with
  | zero => omega
  | succ n ih =>
    unfold mxG
    by_cases q : d = n
    · subst q
      rw [if_pos h]
      split <;> omega
    · have := ih (by omega)
      split
      · split <;> omega
      · exact this
theorem mxG_is (p : Nat → Bool) (v : Nat → Nat) (b n : Nat) : mxG p v b n = b ∨ ∃ d, d < n ∧ p d = true ∧ v d = mxG p v b n := by
  induction n with
  | zero => exact Or.inl rfl
  | succ n ih =>
    have low : mxG p v b n = b ∨ ∃ d, d < n + 1 ∧ p d = true ∧ v d = mxG p v b n := by
      rcases ih with h | ⟨d, h1, h2, h3⟩
      · exact Or.inl h
      · exact Or.inr ⟨d, by omega, h2, h3⟩
    unfold mxG
    by_cases q : p n = true
    · rw [if_pos q]
      by_cases q2 : mxG p v b n < v n
      · rw [if_pos q2]
        exact Or.inr ⟨n, by omega, q, rfl⟩
      · rw [if_neg q2]
        exact low
    · rw [if_neg q]
      exact low
def fr (ok : Nat → Nat → Bool) (c m d : Nat) : Bool := ok c d && !Nat.testBit m d
/-- how many of the k children from c on can be calm, those of m being used -/
def mF (ok : Nat → Nat → Bool) (D : Nat) : Nat → Nat → Nat → Nat
  | 0, _, _ => 0
  | k + 1, c, m => mxG (fr ok c m) (fun d => 1 + mF ok D k (c + 1) (bt m d)) (mF ok D k (c + 1) m) D
/-- the first dummy for child c, the best, or D -/
def mD (ok : Nat → Nat → Bool) (D k c m : Nat) : Nat := fsN (fun d => fr ok c m d && decide (1 + mF ok D k (c + 1) (bt m d) = mF ok D (k + 1) c m)) D
def nx (D m d : Nat) : Nat := if d < D then bt m d else m
/-- the best way's code -/
def mC (ok : Nat → Nat → Bool) (D : Nat) : Nat → Nat → Nat → Nat
  | 0, _, _ => 0
  | k + 1, c, m => mD ok D k c m * (D + 1) ^ k + mC ok D k (c + 1) (nx D m (mD ok D k c m))
def dg (D k i : Nat) : Nat := i / (D + 1) ^ k % (D + 1)
/-- how many are calm in the way with code i, if it may be -/
def mL (ok : Nat → Nat → Bool) (D : Nat) : Nat → Nat → Nat → Nat → Option Nat
  | 0, _, _, _ => some 0
  | k + 1, c, m, i => if dg D k i < D then (if fr ok c m (dg D k i) then (mL ok D k (c + 1) (bt m (dg D k i)) i).map (fun n => 1 + n) else none) else mL ok D k (c + 1) m i
/-- the same, from the last child on -/
def mB (ok : Nat → Nat → Bool) (D : Nat) : Nat → Nat → Nat → Nat → Bool × Nat × Nat
  | 0, _, m, _ => (true, m, 0)
  | k + 1, c, m, i => if dg D k i < D then ((mB ok D k (c + 1) m i).1 && fr ok c (mB ok D k (c + 1) m i).2.1 (dg D k i), bt (mB ok D k (c + 1) m i).2.1 (dg D k i), (mB ok D k (c + 1) m i).2.2 + 1) else mB ok D k (c + 1) m i
section MP
variable {ok : Nat → Nat → Bool} {D : Nat}
theorem dg_le (k i : Nat) : dg D k i ≤ D := by
  have := Nat.mod_lt (i / (D + 1) ^ k) (show D + 1 > 0 by omega)
  unfold dg
  omega
theorem mB_mono (k c m i e : Nat) (h : Nat.testBit m e = true) : Nat.testBit (mB ok D k c m i).2.1 e = true := by
  induction k generalizing c with
  | zero => exact h
  | succ k ih =>
    unfold mB
    split
    · rw [bt_t, ih (c + 1)]
      rfl
    · exact ih (c + 1)
theorem mB_bt (k c m i d : Nat) (h : Nat.testBit m d = false) :
    (mB ok D k c (bt m d) i).1 = ((mB ok D k c m i).1 && !Nat.testBit (mB ok D k c m i).2.1 d) ∧ (∀ e, Nat.testBit (mB ok D k c (bt m d) i).2.1 e = (Nat.testBit (mB ok D k c m i).2.1 e || decide (e = d))) ∧ (mB ok D k c (bt m d) i).2.2 = (mB ok D k c m i).2.2 := by
  induction k generalizing c with
  | zero =>
    refine ⟨?_, fun e => bt_t m d e, rfl⟩
    show true = (true && !Nat.testBit m d)
    rw [h]
    rfl
  | succ k ih =>
    obtain ⟨i1, i2, i3⟩ := ih (c + 1)
    unfold mB
    by_cases q : dg D k i < D
    · rw [if_pos q, if_pos q]
      dsimp only
      generalize dg D k i = a
      generalize mB ok D k (c + 1) (bt m d) i = x at i1 i2 i3
      generalize mB ok D k (c + 1) m i = y at i1 i2 i3
      refine ⟨?_, fun e => ?_, by rw [i3]⟩
      · unfold fr
        rw [i1, i2 a, bt_t]
        by_cases z : a = d
        · subst z
          simp
        · have z2 : ¬ d = a := fun w => z w.symm
          simp only [z, z2, decide_false, Bool.or_false]
          cases y.1 <;> cases ok c a <;> cases Nat.testBit y.2.1 a <;> cases Nat.testBit y.2.1 d <;> rfl
      · rw [bt_t, bt_t, i2 e]
        cases Nat.testBit y.2.1 e <;> cases decide (e = d) <;> cases decide (e = a) <;> rfl
    · rw [if_neg q, if_neg q]
      exact ⟨i1, i2, i3⟩
theorem mL_mB (k c m i : Nat) : mL ok D k c m i = if (mB ok D k c m i).1 then some (mB ok D k c m i).2.2 else none := by
  induction k generalizing c m with
  | zero => rfl
  | succ k ih =>
    unfold mL mB
    by_cases q : dg D k i < D
    · rw [if_pos q, if_pos q]
      dsimp only
      generalize dg D k i = a
      cases hb : Nat.testBit m a with
      | true =>
        have := mB_mono (ok := ok) (D := D) k (c + 1) m i a hb
        unfold fr
        rw [this, hb]
        simp
      | false =>
        obtain ⟨i1, i2, i3⟩ := mB_bt (ok := ok) (D := D) k (c + 1) m i a hb
        rw [ih, i1, i3]
        unfold fr
        rw [hb]
        cases ok c a <;> cases (mB ok D k (c + 1) m i).1 <;> cases Nat.testBit (mB ok D k (c + 1) m i).2.1 a <;> simp
        omega
    · rw [if_neg q, if_neg q]
      exact ih (c + 1) m
theorem dg_mod (k j i : Nat) (h : j < k) : dg D j (i % (D + 1) ^ k) = dg D j i := by
  obtain ⟨t, rfl⟩ : ∃ t, k = j + 1 + t := ⟨k - (j + 1), by omega⟩
  unfold dg
  have e : (D + 1) ^ (j + 1 + t) = (D + 1) ^ j * ((D + 1) * (D + 1) ^ t) := by rw [Nat.pow_add, Nat.pow_succ, Nat.mul_assoc]
  rw [e, Nat.mod_mul_right_div_self, Nat.mod_mul_right_mod]
theorem mL_mod (k c m i n : Nat) (h : k ≤ n) : mL ok D k c m (i % (D + 1) ^ n) = mL ok D k c m i := by
  induction k generalizing c m with
  | zero => rfl
  | succ k ih =>
    unfold mL
    rw [dg_mod n k i (by omega), ih (c + 1) _ (by omega), ih (c + 1) _ (by omega)]
theorem mF_le (k c m d : Nat) (hd : d < D) (hf : fr ok c m d = true) : 1 + mF ok D k (c + 1) (bt m d) ≤ mF ok D (k + 1) c m := mxG_v (fun d => 1 + mF ok D k (c + 1) (bt m d)) _ hd hf
theorem mF_le0 (k c m : Nat) : mF ok D k (c + 1) m ≤ mF ok D (k + 1) c m := mxG_b _ _ _ _
theorem mL_F (k c m i w : Nat) (h : mL ok D k c m i = some w) : w ≤ mF ok D k c m := by
  induction k generalizing c m w with
  | zero => cases h; exact Nat.zero_le _
  | succ k ih =>
    unfold mL at h
    by_cases q : dg D k i < D
    · rw [if_pos q] at h
      by_cases q2 : fr ok c m (dg D k i) = true
      · rw [if_pos q2] at h
        cases hm : mL ok D k (c + 1) (bt m (dg D k i)) i with
        | none => rw [hm] at h; cases h
        | some n =>
          rw [hm] at h
          cases h
          show 1 + n ≤ _
          have h1 := ih (c + 1) _ n hm
          have h2 := mF_le (ok := ok) (D := D) k c m _ q q2
          omega
      · rw [if_neg q2] at h
        cases h
    · rw [if_neg q] at h
      exact Nat.le_trans (ih (c + 1) m w h) (mF_le0 k c m)
theorem mD_le (k c m : Nat) : mD ok D k c m ≤ D := fsN_le _ _
theorem mD_t (k c m : Nat) (h : mD ok D k c m < D) : fr ok c m (mD ok D k c m) = true ∧ 1 + mF ok D k (c + 1) (bt m (mD ok D k c m)) = mF ok D (k + 1) c m := by
  have := fsN_t _ _ h
  simp only [Bool.and_eq_true, decide_eq_true_eq] at this
  exact this
theorem mD_f (k c m e : Nat) (h : e < mD ok D k c m) (hf : fr ok c m e = true) : 1 + mF ok D k (c + 1) (bt m e) < mF ok D (k + 1) c m := by
  have h1 := fsN_f _ _ _ h
  have h2 := mF_le (ok := ok) (D := D) k c m e (Nat.lt_of_lt_of_le h (mD_le k c m)) hf
  simp only [hf, Bool.true_and, decide_eq_false_iff_not] at h1
  omega
theorem mD_no (k c m : Nat) (h : ¬ mD ok D k c m < D) : mF ok D k (c + 1) m = mF ok D (k + 1) c m := by
  rcases mxG_is (fr ok c m) (fun d => 1 + mF ok D k (c + 1) (bt m d)) (mF ok D k (c + 1) m) D with h1 | ⟨d, d1, d2, d3⟩
  · exact h1.symm
  · have := mD_f (ok := ok) (D := D) k c m d (by omega) d2
    have d3' : 1 + mF ok D k (c + 1) (bt m d) = mF ok D (k + 1) c m := d3
    omega
theorem mC_lt (k c m : Nat) : mC ok D k c m < (D + 1) ^ k := by
  induction k generalizing c m with
  | zero => exact Nat.one_pos
  | succ k ih =>
    have h1 := ih (c + 1) (nx D m (mD ok D k c m))
    have h2 := mD_le (ok := ok) (D := D) k c m
    have h3 : mD ok D k c m * (D + 1) ^ k ≤ D * (D + 1) ^ k := Nat.mul_le_mul_right _ h2
    show mD ok D k c m * (D + 1) ^ k + mC ok D k (c + 1) (nx D m (mD ok D k c m)) < (D + 1) ^ k * (D + 1)
    have h4 : (D + 1) ^ k * (D + 1) = D * (D + 1) ^ k + (D + 1) ^ k := by rw [Nat.mul_add, Nat.mul_comm, Nat.mul_one]
    omega
theorem mC_dg (k c m : Nat) : dg D k (mC ok D (k + 1) c m) = mD ok D k c m := by
  have h1 := mC_lt (ok := ok) (D := D) k (c + 1) (nx D m (mD ok D k c m))
  have h2 := mD_le (ok := ok) (D := D) k c m
  have h0 : 0 < (D + 1) ^ k := Nat.pow_pos (by omega)
  unfold dg
  show (mD ok D k c m * (D + 1) ^ k + mC ok D k (c + 1) (nx D m (mD ok D k c m))) / (D + 1) ^ k % (D + 1) = _
  rw [Nat.mul_comm, Nat.mul_add_div h0, Nat.div_eq_of_lt h1, Nat.add_zero, Nat.mod_eq_of_lt (by omega)]
theorem mC_mod (k c m : Nat) : mC ok D (k + 1) c m % (D + 1) ^ k = mC ok D k (c + 1) (nx D m (mD ok D k c m)) := by
  have h1 := mC_lt (ok := ok) (D := D) k (c + 1) (nx D m (mD ok D k c m))
  show (mD ok D k c m * (D + 1) ^ k + mC ok D k (c + 1) (nx D m (mD ok D k c m))) % (D + 1) ^ k = _
  rw [Nat.mul_add_mod_self_right, Nat.mod_eq_of_lt h1]
theorem mL_C (k c m : Nat) : mL ok D k c m (mC ok D k c m) = some (mF ok D k c m) := by
  induction k generalizing c m with
  | zero => rfl
  | succ k ih =>
    have h1 := ih (c + 1) (nx D m (mD ok D k c m))
    rw [← mC_mod, mL_mod k _ _ _ k (Nat.le_refl _)] at h1
    unfold mL
    rw [mC_dg]
    by_cases q : mD ok D k c m < D
    · rw [if_pos q, if_pos (mD_t k c m q).1]
      unfold nx at h1
      rw [if_pos q] at h1
      rw [h1]
      show some (1 + mF ok D k (c + 1) (bt m (mD ok D k c m))) = _
      rw [(mD_t k c m q).2]
    · rw [if_neg q]
      unfold nx at h1
      rw [if_neg q] at h1
      rw [h1, mD_no k c m q]
theorem mL_lt (k c m i w : Nat) (hi : i % (D + 1) ^ k < mC ok D k c m) (h : mL ok D k c m i = some w) : w < mF ok D k c m := by
  induction k generalizing c m w with
  | zero => exact absurd hi (Nat.not_lt_zero _)
  | succ k ih =>
    have h0 : 0 < (D + 1) ^ k := Nat.pow_pos (by omega)
    have hr := Nat.mod_lt i h0
    have g1 := mC_lt (ok := ok) (D := D) k (c + 1) (nx D m (mD ok D k c m))
    have hm : i % (D + 1) ^ (k + 1) = i % (D + 1) ^ k + (D + 1) ^ k * dg D k i := by rw [Nat.pow_succ, Nat.mod_mul]; rfl
    have hC : mC ok D (k + 1) c m = (D + 1) ^ k * mD ok D k c m + mC ok D k (c + 1) (nx D m (mD ok D k c m)) := by rw [Nat.mul_comm]; rfl
    rw [hm, hC] at hi
    have hle := mD_le (ok := ok) (D := D) k c m
    unfold mL at h
    rcases Nat.lt_trichotomy (dg D k i) (mD ok D k c m) with z | z | z
    · have hD : dg D k i < D := by omega
      rw [if_pos hD] at h
      by_cases q2 : fr ok c m (dg D k i) = true
      · rw [if_pos q2] at h
        cases hm : mL ok D k (c + 1) (bt m (dg D k i)) i with
        | none => rw [hm] at h; cases h
        | some n =>
          rw [hm] at h
          cases h
          show 1 + n < _
          have h1 := mL_F (ok := ok) k (c + 1) _ i n hm
          have h2 := mD_f (ok := ok) k c m _ z q2
          omega
      · rw [if_neg q2] at h
        cases h
    · rw [z] at hi h
      have hi2 : i % (D + 1) ^ k < mC ok D k (c + 1) (nx D m (mD ok D k c m)) := by omega
      by_cases q : mD ok D k c m < D
      · rw [if_pos q, if_pos (mD_t k c m q).1] at h
        unfold nx at hi2
        rw [if_pos q] at hi2
        cases hm : mL ok D k (c + 1) (bt m (mD ok D k c m)) i with
        | none => rw [hm] at h; cases h
        | some n =>
          rw [hm] at h
          cases h
          show 1 + n < _
          have h1 := ih (c + 1) _ n hi2 hm
          have h2 := (mD_t (ok := ok) k c m q).2
          omega
      · rw [if_neg q] at h
        unfold nx at hi2
        rw [if_neg q] at hi2
        have h1 := ih (c + 1) m w hi2 h
        rw [← mD_no k c m q]
        exact h1
    · have : (D + 1) ^ k * (mD ok D k c m + 1) ≤ (D + 1) ^ k * dg D k i := Nat.mul_le_mul_left _ z
      rw [Nat.mul_add, Nat.mul_one] at this
      clear hm
      generalize i % (D + 1) ^ k = r at hi hr
      omega
theorem mF_k (k c m : Nat) : mF ok D k c m ≤ k := by
  induction k generalizing c m with
  | zero => exact Nat.le_refl _
  | succ k ih =>
    rcases mxG_is (fr ok c m) (fun d => 1 + mF ok D k (c + 1) (bt m d)) (mF ok D k (c + 1) m) D with h1 | ⟨d, d1, d2, d3⟩
    · have := ih (c + 1) m
      have h1' : mF ok D (k + 1) c m = mF ok D k (c + 1) m := h1
      omega
    · have := ih (c + 1) (bt m d)
      have d3' : 1 + mF ok D k (c + 1) (bt m d) = mF ok D (k + 1) c m := d3
      omega
end MP
