/-! sets of at most six as ints: by their 64 cases -/
def b2n (b : Bool) : Nat := if b then 1 else 0
theorem bits6 (f : Nat → Bool) : ∃ m, m < 64 ∧ ∀ i, i < 6 → f i = Nat.testBit m i := by
  have key : ∀ a b c d e g : Bool, ∃ m, m < 64 ∧ a = Nat.testBit m 0 ∧ b = Nat.testBit m 1 ∧ c = Nat.testBit m 2 ∧ d = Nat.testBit m 3 ∧ e = Nat.testBit m 4 ∧ g = Nat.testBit m 5 := by
    intro a b c d e g
    refine ⟨b2n a + 2 * b2n b + 4 * b2n c + 8 * b2n d + 16 * b2n e + 32 * b2n g, ?_⟩
    cases a <;> cases b <;> cases c <;> cases d <;> cases e <;> cases g <;> decide +kernel
  obtain ⟨m, hm, h0, h1, h2, h3, h4, h5⟩ := key (f 0) (f 1) (f 2) (f 3) (f 4) (f 5)
  refine ⟨m, hm, fun i hi => ?_⟩
  match i, hi with
  | 0, _ => exact h0
  | 1, _ => exact h1
  | 2, _ => exact h2
  | 3, _ => exact h3
  | 4, _ => exact h4
  | 5, _ => exact h5
  | i + 6, hi => omega
theorem stF_m {f : Nat → Bool} {m n : Nat} (hn : n ≤ 6) (hf : ∀ i, i < 6 → f i = Nat.testBit m i) : stF f n = stF (Nat.testBit m) n := stF_congr (fun i hi => hf i (by omega))
def isInB (s x : Int32) : Bool := !decide ((s >>> (x &&& 31)) &&& nI 1 = 0)
theorem has_st_d : ∀ m, m < 64 → ∀ n, n ≤ 6 → ∀ d, d < 6 → hasB (stF (Nat.testBit m) n) (nI d) = (decide (d < n) && Nat.testBit m d) ∧ isInB (stF (Nat.testBit m) n) (nI d) = (decide (d < n) && Nat.testBit m d) := by decide +kernel
theorem has_st (f : Nat → Bool) {n d : Nat} (hn : n ≤ 6) (hd : d < n) : hasB (stF f n) (nI d) = f d := by
  obtain ⟨m, hm, hf⟩ := bits6 f
  rw [stF_m hn hf, (has_st_d m hm n hn d (by omega)).1, hf d (by omega)]
  simp [hd]
theorem isIn_st (f : Nat → Bool) {n d : Nat} (hn : n ≤ 6) (hd : d < n) : isInB (stF f n) (nI d) = f d := by
  obtain ⟨m, hm, hf⟩ := bits6 f
  rw [stF_m hn hf, (has_st_d m hm n hn d (by omega)).2, hf d (by omega)]
  simp [hd]
theorem upd_st_d : ∀ m, m < 64 → ∀ n, n ≤ 6 → ∀ d, d < n → stF (Nat.testBit m) n &&& ((nI 1 <<< (nI d &&& 31)) ^^^ (-1)) = stF (fun i => decide (¬ i = d) && Nat.testBit m i) n ∧ stF (Nat.testBit m) n ||| (nI 1 <<< (nI d &&& 31)) = stF (fun i => decide (i = d) || Nat.testBit m i) n := by decide +kernel
theorem clr_st (f : Nat → Bool) {n d : Nat} (hn : n ≤ 6) (hd : d < n) : stF f n &&& ((nI 1 <<< (nI d &&& 31)) ^^^ (-1)) = stF (fun i => decide (¬ i = d) && f i) n := by
  obtain ⟨m, hm, hf⟩ := bits6 f
  rw [stF_m hn hf, (upd_st_d m hm n hn d hd).1]
  exact stF_congr (fun i hi => by rw [hf i (by omega)])
theorem set_st (f : Nat → Bool) {n d : Nat} (hn : n ≤ 6) (hd : d < n) : stF f n ||| (nI 1 <<< (nI d &&& 31)) = stF (fun i => decide (i = d) || f i) n := by
  obtain ⟨m, hm, hf⟩ := bits6 f
  rw [stF_m hn hf, (upd_st_d m hm n hn d hd).2]
  exact stF_congr (fun i hi => by rw [hf i (by omega)])
theorem st_eq0_d : ∀ m, m < 64 → ∀ n, n ≤ 6 → (stF (Nat.testBit m) n = 0 ↔ ∀ i, i < n → Nat.testBit m i = false) := by decide +kernel
theorem st_eq0 (f : Nat → Bool) {n : Nat} (hn : n ≤ 6) : stF f n = 0 ↔ ∀ i, i < n → f i = false := by
  obtain ⟨m, hm, hf⟩ := bits6 f
  rw [stF_m hn hf, st_eq0_d m hm n hn]
  constructor
  · intro h i hi
    rw [hf i (by omega)]
    exact h i hi
  · intro h i hi
    rw [← hf i (by omega)]
    exact h i hi
