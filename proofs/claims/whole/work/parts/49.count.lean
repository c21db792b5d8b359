/-! ways counted: pure -/
def suN (f : Nat → Nat) : Nat → Nat
  | 0 => 0
  | n + 1 => suN f n + f n
theorem suN_cg {f g : Nat → Nat} {n : Nat} (h : ∀ i, i < n → f i = g i) : suN f n = suN g n := by
  induction n with
  | zero => rfl
  | succ n ih => show suN f n + f n = suN g n + g n; rw [ih (fun i hi => h i (by omega)), h n (by omega)]
theorem suN_0 {f : Nat → Nat} {n : Nat} (h : ∀ i, i < n → f i = 0) : suN f n = 0 := by
  induction n with
  | zero => rfl
  | succ n ih => show suN f n + f n = 0; rw [ih (fun i hi => h i (by omega)), h n (by omega)]
theorem suN_1 {f : Nat → Nat} {n a : Nat} (ha : a < n) (h : ∀ i, i < n → i ≠ a → f i = 0) : suN f n = f a := by
  induction n with
  | zero => omega
  | succ n ih =>
    show suN f n + f n = f a
    by_cases e : a = n
    · subst e
      rw [suN_0 (fun i hi => h i (by omega) (by omega)), Nat.zero_add]
    · rw [ih (by omega) (fun i hi => h i (by omega)), h n (by omega) (fun z => e z.symm), Nat.add_zero]
theorem suN_add (f g : Nat → Nat) (n : Nat) : suN (fun i => f i + g i) n = suN f n + suN g n := by
  induction n with
  | zero => rfl
  | succ n ih =>
    show suN (fun i => f i + g i) n + (f n + g n) = (suN f n + f n) + (suN g n + g n)
    rw [ih]
    omega
theorem suN_mul (f : Nat → Nat) (a n : Nat) : suN (fun i => a * f i) n = a * suN f n := by
  induction n with
  | zero => rfl
  | succ n ih =>
    show suN (fun i => a * f i) n + a * f n = a * (suN f n + f n)
    rw [ih, Nat.mul_add]
theorem suN_mulr (f : Nat → Nat) (a n : Nat) : suN (fun i => f i * a) n = suN f n * a := by
  induction n with
  | zero => show 0 = 0 * a; rw [Nat.zero_mul]
  | succ n ih =>
    show suN (fun i => f i * a) n + f n * a = (suN f n + f n) * a
    rw [ih, Nat.add_mul]
theorem suN_sw (f : Nat → Nat → Nat) (n k : Nat) : suN (fun i => suN (fun j => f i j) k) n = suN (fun j => suN (fun i => f i j) n) k := by
  induction n with
  | zero => exact (suN_0 (fun _ _ => rfl)).symm
  | succ n ih =>
    show suN (fun i => suN (fun j => f i j) k) n + suN (fun j => f n j) k = suN (fun j => suN (fun i => f i j) n + f n j) k
    rw [ih, suN_add]
theorem suN_ap (f : Nat → Nat) (a b : Nat) : suN f (a + b) = suN f a + suN (fun r => f (a + r)) b := by
  induction b with
  | zero => rfl
  | succ b ih =>
    show suN f (a + b) + f (a + b) = suN f a + (suN (fun r => f (a + r)) b + f (a + b))
    rw [ih, Nat.add_assoc]
theorem suN_bl (f : Nat → Nat) (a b : Nat) : suN f (a * b) = suN (fun d => suN (fun r => f (a * d + r)) a) b := by
  induction b with
  | zero => rfl
  | succ b ih =>
    show suN f (a * b + a) = suN (fun d => suN (fun r => f (a * d + r)) a) b + suN (fun r => f (a * b + r)) a
    rw [suN_ap, ih]
theorem suN_le {f : Nat → Nat} {n k : Nat} (h : k ≤ n) : suN f k ≤ suN f n := by
  induction n with
  | zero => rw [show k = 0 by omega]; exact Nat.le_refl _
  | succ n ih =>
    by_cases e : k = n + 1
    · rw [e]; exact Nat.le_refl _
    · exact Nat.le_trans (ih (by omega)) (Nat.le_add_right _ _)
theorem suN_b (p : Nat → Bool) (n : Nat) : suN (fun i => b2n (p i)) n ≤ n := by
  induction n with
  | zero => exact Nat.le_refl _
  | succ n ih =>
    show suN (fun i => b2n (p i)) n + b2n (p n) ≤ n + 1
    have : b2n (p n) ≤ 1 := by cases p n <;> decide
    omega
def dd (D k i : Nat) : Nat := i / D ^ k % D
/-- the way with code i may be, from child c on, those of m being owned -/
def vW (ok : Nat → Nat → Bool) (D : Nat) : Nat → Nat → Nat → Nat → Bool
  | 0, _, _, _ => true
  | k + 1, c, m, i => fr ok c m (dd D k i) && vW ok D k (c + 1) (bt m (dd D k i)) i
def uB (D : Nat) : Nat → Nat → Nat → Bool × Nat
  | 0, m, _ => (true, m)
  | k + 1, m, i => ((uB D k m i).1 && !Nat.testBit (uB D k m i).2 (dd D k i), bt (uB D k m i).2 (dd D k i))
def aO (ok : Nat → Nat → Bool) (D : Nat) : Nat → Nat → Nat → Bool
  | 0, _, _ => true
  | k + 1, c, i => ok c (dd D k i) && aO ok D k (c + 1) i
def nW (ok : Nat → Nat → Bool) (D : Nat) : Nat → Nat → Nat → Nat
  | 0, _, _ => 1
  | k + 1, c, m => suN (fun d => if fr ok c m d then nW ok D k (c + 1) (bt m d) else 0) D
def aW (ok : Nat → Nat → Bool) (D : Nat) : Nat → Nat → Nat
  | 0, m => if m = 0 then 1 else 0
  | j + 1, m => suN (fun d => if ok j d && Nat.testBit m d then aW ok D j (m - 2 ^ d) else 0) D
section CO
variable {ok ok' : Nat → Nat → Bool} {D : Nat}
theorem uB_mono (k m i e : Nat) (h : Nat.testBit m e = true) : Nat.testBit (uB D k m i).2 e = true := by
  induction k with
  | zero => exact h
  | succ k ih =>
    unfold uB
    rw [bt_t, ih]
    rfl
theorem uB_bt (k m i d : Nat) (h : Nat.testBit m d = false) :
    (uB D k (bt m d) i).1 = ((uB D k m i).1 && !Nat.testBit (uB D k m i).2 d) ∧ ∀ e, Nat.testBit (uB D k (bt m d) i).2 e = (Nat.testBit (uB D k m i).2 e || decide (e = d)) := by
  induction k with
  | zero =>
    refine ⟨?_, fun e => bt_t m d e⟩
    show true = (true && !Nat.testBit m d)
    rw [h]
    rfl
  | succ k ih =>
    obtain ⟨i1, i2⟩ := ih
    unfold uB
    dsimp only
    generalize dd D k i = a
    generalize uB D k (bt m d) i = x at i1 i2
    generalize uB D k m i = y at i1 i2
    refine ⟨?_, fun e => ?_⟩
    · rw [i1, i2 a, bt_t]
      by_cases z : a = d
      · subst z
        simp
      · have z2 : ¬ d = a := fun w => z w.symm
        simp only [z, z2, decide_false, Bool.or_false]
        cases y.1 <;> cases Nat.testBit y.2 a <;> cases Nat.testBit y.2 d <;> rfl
    · rw [bt_t, bt_t, i2 e]
      cases Nat.testBit y.2 e <;> cases decide (e = d) <;> cases decide (e = a) <;> rfl
theorem vW_uB (k c m i : Nat) : vW ok D k c m i = ((uB D k m i).1 && aO ok D k c i) := by
  induction k generalizing c m with
  | zero => rfl
  | succ k ih =>
    unfold vW uB aO
    dsimp only
    generalize dd D k i = a
    rw [ih]
    unfold fr
    cases hb : Nat.testBit m a with
    | true =>
      rw [uB_mono k m i a hb]
      simp
    | false =>
      rw [(uB_bt k m i a hb).1]
      cases ok c a <;> cases (uB D k m i).1 <;> cases Nat.testBit (uB D k m i).2 a <;> cases aO ok D k (c + 1) i <;> rfl
theorem aO_i (k c i : Nat) : aO ok D k c i = true ↔ ∀ t, t < k → ok (c + t) (dd D (k - (t + 1)) i) = true := by
  induction k generalizing c with
  | zero => exact ⟨fun _ t ht => absurd ht (Nat.not_lt_zero _), fun _ => rfl⟩
  | succ k ih =>
    unfold aO
    rw [Bool.and_eq_true, ih]
    constructor
    · rintro ⟨h1, h2⟩ t ht
      cases t with
      | zero => exact h1
      | succ t =>
        have := h2 t (by omega)
        rw [show c + (t + 1) = c + 1 + t by omega, show k + 1 - (t + 1 + 1) = k - (t + 1) by omega]
        exact this
    · intro h
      refine ⟨h 0 (by omega), fun t ht => ?_⟩
      have := h (t + 1) (by omega)
      rw [show c + (t + 1) = c + 1 + t by omega, show k + 1 - (t + 1 + 1) = k - (t + 1) by omega] at this
      exact this
theorem dd_mod (k j i : Nat) (h : j < k) : dd D j (i % D ^ k) = dd D j i := by
  obtain ⟨t, rfl⟩ : ∃ t, k = j + 1 + t := ⟨k - (j + 1), by omega⟩
  unfold dd
  have e : D ^ (j + 1 + t) = D ^ j * (D * D ^ t) := by rw [Nat.pow_add, Nat.pow_succ, Nat.mul_assoc]
  rw [e, Nat.mod_mul_right_div_self, Nat.mod_mul_right_mod]
theorem vW_mod (k c m i n : Nat) (h : k ≤ n) : vW ok D k c m (i % D ^ n) = vW ok D k c m i := by
  induction k generalizing c m with
  | zero => rfl
  | succ k ih =>
    unfold vW
    rw [dd_mod n k i (by omega), ih (c + 1) _ (by omega)]
theorem nW_ct (k c m : Nat) : suN (fun i => b2n (vW ok D k c m i)) (D ^ k) = nW ok D k c m := by
  induction k generalizing c m with
  | zero => rfl
  | succ k ih =>
    rw [Nat.pow_succ, suN_bl]
    refine suN_cg (fun d hd => ?_)
    have h0 : 0 < D ^ k := Nat.pow_pos (by omega)
    have e : ∀ r, r < D ^ k → vW ok D (k + 1) c m (D ^ k * d + r) = (fr ok c m d && vW ok D k (c + 1) (bt m d) r) := by
      intro r hr
      have e1 : dd D k (D ^ k * d + r) = d := by
        unfold dd
        rw [Nat.mul_add_div h0, Nat.div_eq_of_lt hr, Nat.add_zero, Nat.mod_eq_of_lt hd]
      have e2 : ∀ m', vW ok D k (c + 1) m' (D ^ k * d + r) = vW ok D k (c + 1) m' r := by
        intro m'
        rw [← vW_mod k (c + 1) m' _ k (Nat.le_refl _), Nat.mul_add_mod, Nat.mod_eq_of_lt hr]
      show (fr ok c m (dd D k (D ^ k * d + r)) && vW ok D k (c + 1) (bt m (dd D k (D ^ k * d + r))) (D ^ k * d + r)) = _
      rw [e1, e2]
    rw [suN_cg (g := fun r => b2n (fr ok c m d && vW ok D k (c + 1) (bt m d) r)) (fun r hr => by rw [e r hr])]
    by_cases q : fr ok c m d = true
    · rw [if_pos q, q]
      simp only [Bool.true_and]
      exact ih (c + 1) (bt m d)
    · rw [if_neg q]
      have q2 : fr ok c m d = false := by simpa using q
      rw [q2]
      exact suN_0 (fun _ _ => rfl)
theorem nW_le (k c m : Nat) : nW ok D k c m ≤ D ^ k := by
  rw [← nW_ct]
  exact suN_b _ _
theorem nW_cg (k c m : Nat) (h : ∀ c', c ≤ c' → ok c' = ok' c') : nW ok D k c m = nW ok' D k c m := by
  induction k generalizing c m with
  | zero => rfl
  | succ k ih =>
    unfold nW
    refine suN_cg (fun d hd => ?_)
    unfold fr
    rw [h c (Nat.le_refl _), ih (c + 1) _ (fun c' hc' => h c' (by omega))]
theorem aW_cg (j m : Nat) (h : ∀ c', c' < j → ok c' = ok' c') : aW ok D j m = aW ok' D j m := by
  induction j generalizing m with
  | zero => rfl
  | succ j ih =>
    unfold aW
    refine suN_cg (fun d hd => ?_)
    rw [h j (by omega), ih _ (fun c' hc' => h c' (by omega))]
theorem bt_ad : ∀ m, m < 64 → ∀ d, d < 6 → Nat.testBit m d = false → bt m d = m + 2 ^ d := by decide +kernel
theorem swap_d (u : Nat → Nat → Nat) {d : Nat} (hD : D ≤ 6) (hd : d < D) : suN (fun m => if Nat.testBit m d then 0 else u m (bt m d)) (2 ^ D) = suN (fun m => if Nat.testBit m d then u (m - 2 ^ d) m else 0) (2 ^ D) := by
  have h64 : 2 ^ D ≤ 64 := Nat.pow_le_pow_right (n := 2) (by decide) hD
  obtain ⟨t, rfl⟩ : ∃ t, D = d + 1 + t := ⟨D - (d + 1), by omega⟩
  have key : ∀ F : Nat → Nat, suN F (2 ^ (d + 1)) = suN F (2 ^ d) + suN (fun r => F (2 ^ d + r)) (2 ^ d) := by
    intro F
    rw [Nat.pow_succ, Nat.mul_two, suN_ap]
  have hp : 0 < 2 ^ d := Nat.pow_pos (by decide)
  rw [Nat.pow_add] at h64 ⊢
  rw [suN_bl, suN_bl]
  refine suN_cg (fun hi hhi => ?_)
  rw [key, key]
  have hb : 2 ^ (d + 1) * (hi + 1) ≤ 2 ^ (d + 1) * 2 ^ t := Nat.mul_le_mul_left _ hhi
  rw [Nat.mul_add, Nat.mul_one] at hb
  have e2 : 2 ^ (d + 1) = 2 ^ d + 2 ^ d := by rw [Nat.pow_succ, Nat.mul_two]
  have e3 : 2 ^ (d + 1) * hi = 2 ^ d * (2 * hi) := by rw [Nat.pow_succ, Nat.mul_assoc]
  have lo : ∀ r, r < 2 ^ d → Nat.testBit (2 ^ (d + 1) * hi + r) d = false := by
    intro r hr
    rw [Nat.testBit_eq_decide_div_mod_eq, e3, Nat.mul_add_div hp, Nat.div_eq_of_lt hr]
    simp
  have up : ∀ r, r < 2 ^ d → Nat.testBit (2 ^ (d + 1) * hi + (2 ^ d + r)) d = true := by
    intro r hr
    rw [Nat.testBit_eq_decide_div_mod_eq, e3, Nat.mul_add_div hp, show 2 ^ d + r = 2 ^ d * 1 + r by omega, Nat.mul_add_div hp, Nat.div_eq_of_lt hr]
    simp
  have z1 : suN (fun r => if Nat.testBit (2 ^ (d + 1) * hi + (2 ^ d + r)) d then 0 else u (2 ^ (d + 1) * hi + (2 ^ d + r)) (bt (2 ^ (d + 1) * hi + (2 ^ d + r)) d)) (2 ^ d) = 0 := suN_0 (fun r hr => by rw [if_pos (up r hr)])
  have z2 : suN (fun r => if Nat.testBit (2 ^ (d + 1) * hi + r) d then u (2 ^ (d + 1) * hi + r - 2 ^ d) (2 ^ (d + 1) * hi + r) else 0) (2 ^ d) = 0 := suN_0 (fun r hr => by rw [if_neg (by rw [lo r hr]; decide)])
  rw [z1, z2, Nat.add_zero, Nat.zero_add]
  refine suN_cg (fun r hr => ?_)
  rw [if_neg (by rw [lo r hr]; decide), if_pos (up r hr), bt_ad _ (by omega) d (by omega) (lo r hr)]
  congr 1 <;> omega
theorem trans1 (hD : D ≤ 6) (j k : Nat) : suN (fun m => aW ok D j m * nW ok D (k + 1) j m) (2 ^ D) = suN (fun m => aW ok D (j + 1) m * nW ok D k (j + 1) m) (2 ^ D) := by
  have e1 : suN (fun m => aW ok D j m * nW ok D (k + 1) j m) (2 ^ D) = suN (fun m => suN (fun d => aW ok D j m * (if fr ok j m d then nW ok D k (j + 1) (bt m d) else 0)) D) (2 ^ D) := suN_cg (fun m _ => (suN_mul _ _ _).symm)
  have e2 : suN (fun m => aW ok D (j + 1) m * nW ok D k (j + 1) m) (2 ^ D) = suN (fun m => suN (fun d => (if ok j d && Nat.testBit m d then aW ok D j (m - 2 ^ d) else 0) * nW ok D k (j + 1) m) D) (2 ^ D) := suN_cg (fun m _ => (suN_mulr _ _ _).symm)
  rw [e1, e2, suN_sw (fun m d => aW ok D j m * (if fr ok j m d then nW ok D k (j + 1) (bt m d) else 0)) (2 ^ D) D, suN_sw (fun m d => (if ok j d && Nat.testBit m d then aW ok D j (m - 2 ^ d) else 0) * nW ok D k (j + 1) m) (2 ^ D) D]
  refine suN_cg (fun d hd => ?_)
  show suN (fun m => aW ok D j m * (if fr ok j m d then nW ok D k (j + 1) (bt m d) else 0)) (2 ^ D) = suN (fun m => (if ok j d && Nat.testBit m d then aW ok D j (m - 2 ^ d) else 0) * nW ok D k (j + 1) m) (2 ^ D)
  cases ho : ok j d with
  | false =>
    have z1 : suN (fun m => aW ok D j m * (if fr ok j m d then nW ok D k (j + 1) (bt m d) else 0)) (2 ^ D) = 0 := suN_0 (fun m _ => by unfold fr; rw [ho]; simp)
    rw [z1]
    exact (suN_0 (fun m _ => by simp)).symm
  | true =>
    have s := swap_d (fun m m' => aW ok D j m * nW ok D k (j + 1) m') hD hd
    have a1 : suN (fun m => aW ok D j m * (if fr ok j m d then nW ok D k (j + 1) (bt m d) else 0)) (2 ^ D) = suN (fun m => if Nat.testBit m d then 0 else aW ok D j m * nW ok D k (j + 1) (bt m d)) (2 ^ D) := by
      refine suN_cg (fun m _ => ?_)
      unfold fr
      rw [ho]
      cases Nat.testBit m d
      · simp
      · simp
    have a2 : suN (fun m => (if true && Nat.testBit m d then aW ok D j (m - 2 ^ d) else 0) * nW ok D k (j + 1) m) (2 ^ D) = suN (fun m => if Nat.testBit m d then aW ok D j (m - 2 ^ d) * nW ok D k (j + 1) m else 0) (2 ^ D) := by
      refine suN_cg (fun m _ => ?_)
      cases Nat.testBit m d
      · simp
      · simp
    rw [a1, a2]
    exact s
theorem trans (hD : D ≤ 6) (C j : Nat) (hj : j ≤ C) : suN (fun m => aW ok D j m * nW ok D (C - j) j m) (2 ^ D) = nW ok D C 0 0 := by
  induction j with
  | zero =>
    rw [suN_1 (a := 0) (Nat.pow_pos (by decide)) (fun m _ hm => ?_)]
    · show (if 0 = 0 then 1 else 0) * nW ok D C 0 0 = _
      rw [if_pos rfl, Nat.one_mul]
    · show (if m = 0 then 1 else 0) * _ = 0
      rw [if_neg hm, Nat.zero_mul]
  | succ j ih =>
    rw [← trans1 hD j (C - (j + 1)), show C - (j + 1) + 1 = C - j by omega]
    exact ih (by omega)
def okR (ok : Nat → Nat → Bool) (c0 e : Nat) : Nat → Nat → Bool := fun c d => ok c d && (!decide (c = c0) || decide (d = e))
/-- in how many ways child c0 owns e -/
def tW (ok : Nat → Nat → Bool) (D C c0 e : Nat) : Nat := nW (okR ok c0 e) D C 0 0
theorem vW_R {C c0 : Nat} (hc : c0 < C) (e i : Nat) : vW (okR ok c0 e) D C 0 0 i = (vW ok D C 0 0 i && decide (dd D (C - (c0 + 1)) i = e)) := by
  rw [vW_uB, vW_uB, Bool.and_assoc]
  congr 1
  rw [Bool.eq_iff_iff, Bool.and_eq_true, aO_i, aO_i]
  constructor
  · intro h
    refine ⟨fun t ht => ?_, ?_⟩
    · have := h t ht
      unfold okR at this
      rw [Bool.and_eq_true] at this
      exact this.1
    · have := h c0 hc
      unfold okR at this
      rw [Bool.and_eq_true] at this
      simpa using this.2
  · rintro ⟨h1, h2⟩ t ht
    unfold okR
    rw [h1 t ht]
    by_cases q : t = c0
    · subst q
      simpa using h2
    · simp [q]
theorem tW_ct {C c0 : Nat} (hc : c0 < C) (e : Nat) : tW ok D C c0 e = suN (fun i => b2n (vW ok D C 0 0 i && decide (dd D (C - (c0 + 1)) i = e))) (D ^ C) := by
  unfold tW
  rw [← nW_ct]
  exact suN_cg (fun i _ => by rw [vW_R hc])
def pop (m : Nat) : Nat := b2n (Nat.testBit m 0) + b2n (Nat.testBit m 1) + b2n (Nat.testBit m 2) + b2n (Nat.testBit m 3) + b2n (Nat.testBit m 4) + b2n (Nat.testBit m 5)
theorem pop_d : ∀ m, m < 64 → ∀ d, d < 6 → (Nat.testBit m d = true → pop (m - 2 ^ d) + 1 = pop m ∧ m - 2 ^ d < m ∧ bt (m - 2 ^ d) d = m) ∧ (Nat.testBit m d = false → pop (bt m d) = pop m + 1 ∧ m < bt m d) := by decide +kernel
theorem pop_le (m : Nat) : pop m ≤ 6 := by
  have : ∀ b, b2n b ≤ 1 := fun b => by cases b <;> decide
  have h0 := this (Nat.testBit m 0)
  have h1 := this (Nat.testBit m 1)
  have h2 := this (Nat.testBit m 2)
  have h3 := this (Nat.testBit m 3)
  have h4 := this (Nat.testBit m 4)
  have h5 := this (Nat.testBit m 5)
  unfold pop
  omega
theorem aW_pop (hD : D ≤ 6) (j m : Nat) (hm : m < 64) (h : pop m ≠ j) : aW ok D j m = 0 := by
  induction j generalizing m with
  | zero =>
    show (if m = 0 then 1 else 0) = 0
    rw [if_neg (fun z => h (by rw [z]; rfl))]
  | succ j ih =>
    refine suN_0 (fun d hd => ?_)
    by_cases q : (ok j d && Nat.testBit m d) = true
    · rw [if_pos q]
      rw [Bool.and_eq_true] at q
      obtain ⟨p1, p2, -⟩ := (pop_d m hm d (by omega)).1 q.2
      exact ih _ (by omega) (by omega)
    · rw [if_neg q]
/-- what the set m adds to them -/
def tf (ok : Nat → Nat → Bool) (D C c0 e m : Nat) : Nat := if pop m = c0 then (if fr ok c0 m e then aW ok D c0 m * nW ok D (C - (c0 + 1)) (c0 + 1) (bt m e) else 0) else 0
theorem tW_tf {C c0 e : Nat} (hD : D ≤ 6) (hc : c0 < C) (he : e < D) : suN (tf ok D C c0 e) (2 ^ D) = tW ok D C c0 e := by
  unfold tW
  rw [← trans hD C c0 (by omega)]
  have h64 : 2 ^ D ≤ 64 := Nat.pow_le_pow_right (n := 2) (by decide) hD
  refine suN_cg (fun m hm => ?_)
  rw [aW_cg (ok := okR ok c0 e) (ok' := ok) c0 m (fun c' hc' => by funext d; unfold okR; simp [show ¬ c' = c0 by omega])]
  have eN : nW (okR ok c0 e) D (C - c0) c0 m = if fr ok c0 m e then nW ok D (C - (c0 + 1)) (c0 + 1) (bt m e) else 0 := by
    rw [show C - c0 = C - (c0 + 1) + 1 by omega]
    show suN (fun d => if fr (okR ok c0 e) c0 m d then nW (okR ok c0 e) D (C - (c0 + 1)) (c0 + 1) (bt m d) else 0) D = _
    rw [suN_1 (a := e) he (fun d _ hd => ?_)]
    · rw [nW_cg (ok := okR ok c0 e) (ok' := ok) _ (c0 + 1) _ (fun c' hc' => by funext d; unfold okR; simp [show ¬ c' = c0 by omega])]
      unfold fr okR
      simp
    · unfold fr okR
      simp [hd]
  rw [eN]
  unfold tf
  by_cases q : pop m = c0
  · rw [if_pos q]
    by_cases q2 : fr ok c0 m e = true
    · rw [if_pos q2, if_pos q2]
    · rw [if_neg q2, if_neg q2, Nat.mul_zero]
  · rw [if_neg q, aW_pop hD c0 m (by omega) q, Nat.zero_mul]
/-- the ways in which p holds of what child c0 owns -/
theorem tW_sum {C c0 : Nat} (hc : c0 < C) (hCD : 0 < D) (p : Nat → Bool) : suN (fun e => if p e then tW ok D C c0 e else 0) D = suN (fun i => b2n (vW ok D C 0 0 i && p (dd D (C - (c0 + 1)) i))) (D ^ C) := by
  have e1 : suN (fun e => if p e then tW ok D C c0 e else 0) D = suN (fun e => suN (fun i => if p e then b2n (vW ok D C 0 0 i && decide (dd D (C - (c0 + 1)) i = e)) else 0) (D ^ C)) D := by
    refine suN_cg (fun e _ => ?_)
    by_cases q : p e = true
    · rw [if_pos q, tW_ct hc]
      exact suN_cg (fun i _ => by rw [if_pos q])
    · rw [if_neg q]
      exact (suN_0 (fun i _ => by rw [if_neg q])).symm
  rw [e1, suN_sw]
  refine suN_cg (fun i _ => ?_)
  have hl : dd D (C - (c0 + 1)) i < D := Nat.mod_lt _ hCD
  rw [suN_1 (a := dd D (C - (c0 + 1)) i) hl (fun e _ he => ?_)]
  · cases p (dd D (C - (c0 + 1)) i) <;> cases vW ok D C 0 0 i <;> simp [b2n]
  · have : ¬ dd D (C - (c0 + 1)) i = e := fun z => he z.symm
    simp [this, b2n]
theorem b2n_le {p q : Bool} (h : p = true → q = true) : b2n p ≤ b2n q := by
  cases p <;> cases q <;> first | decide | exact absurd (h rfl) (by decide)
theorem suN_mono {f g : Nat → Nat} {n : Nat} (h : ∀ i, i < n → f i ≤ g i) : suN f n ≤ suN g n := by
  induction n with
  | zero => exact Nat.le_refl _
  | succ n ih =>
    have h1 := ih (fun i hi => h i (by omega))
    have h2 := h n (by omega)
    show suN f n + f n ≤ suN g n + g n
    omega
/-- as many with p as with q, p of q: then the same -/
theorem suN_eq {p q : Nat → Bool} {n : Nat} (hpq : ∀ i, p i = true → q i = true) (h : suN (fun i => b2n (p i)) n = suN (fun i => b2n (q i)) n) : ∀ i, i < n → q i = true → p i = true := by
  induction n with
  | zero => intro i hi; omega
  | succ n ih =>
    intro i hi hq
    have h1 : suN (fun i => b2n (p i)) n ≤ suN (fun i => b2n (q i)) n := suN_mono (fun i _ => b2n_le (hpq i))
    have h2 : b2n (p n) ≤ b2n (q n) := b2n_le (hpq n)
    have h3 : suN (fun i => b2n (p i)) n + b2n (p n) = suN (fun i => b2n (q i)) n + b2n (q n) := h
    by_cases e : i = n
    · subst e
      have : b2n (p i) = b2n (q i) := by omega
      rw [hq] at this
      cases hp : p i with
      | true => rfl
      | false => rw [hp] at this; exact absurd this (by decide)
    · exact ih (by omega) i (by omega) hq
theorem suN_pos {q : Nat → Bool} {n : Nat} : ¬ suN (fun i => b2n (q i)) n = 0 ↔ ∃ i, i < n ∧ q i = true := by
  induction n with
  | zero => exact ⟨fun h => absurd rfl h, fun ⟨i, hi, _⟩ => absurd hi (Nat.not_lt_zero _)⟩
  | succ n ih =>
    show ¬ suN (fun i => b2n (q i)) n + b2n (q n) = 0 ↔ _
    constructor
    · intro h
      by_cases e : suN (fun i => b2n (q i)) n = 0
      · refine ⟨n, by omega, ?_⟩
        cases hq : q n with
        | true => rfl
        | false => exact absurd (by rw [e, hq]; rfl) h
      · obtain ⟨i, h1, h2⟩ := ih.mp e
        exact ⟨i, by omega, h2⟩
    · rintro ⟨i, h1, h2⟩ z
      by_cases e : i = n
      · subst e
        rw [h2] at z
        have : b2n true = 1 := rfl
        omega
      · exact ih.mpr ⟨i, by omega, h2⟩ (by omega)
end CO
