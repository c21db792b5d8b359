/-! helpers: booleans as ints, rows of the heap, loops, sets, places -/
def bI (b : Bool) : Int32 := if b then nI 1 else nI 0
theorem bI_t : bI true = nI 1 := rfl
theorem bI_f : bI false = nI 0 := rfl
theorem bI_01 (b : Bool) : bI b = 0 ∨ bI b = 1 := by cases b <;> decide
theorem bI_0 (b : Bool) : bI b = 0 ↔ b = false := by cases b <;> decide
theorem bI_n0 (b : Bool) : ¬ bI b = 0 ↔ b = true := by cases b <;> decide
def hr (h : dh_H) (i : Nat) (f : Nat → Int32) : dh_H := fun a => if a = i then f else h a
theorem hr_i (h : dh_H) (i : Nat) (f : Nat → Int32) : hr h i f i = f := if_pos rfl
theorem hr_n {h : dh_H} {i : Nat} {f : Nat → Int32} {j : Nat} (e : j ≠ i) : hr h i f j = h j := if_neg e
theorem hr_hr (h : dh_H) (i : Nat) (f g : Nat → Int32) : hr (hr h i f) i g = hr h i g := by
  funext a
  by_cases e : a = i <;> simp [hr, e]
theorem hr_id (h : dh_H) (i : Nat) : hr h i (h i) = h := by
  funext a
  by_cases e : a = i
  · subst e; simp [hr]
  · simp [hr, e]
theorem dh_s_hr (h : dh_H) (i k : Nat) (x : Int32) : dh_s h i k x = hr h i (upd (h i) k x) := rfl
theorem dh_c_hr (h : dh_H) (a b sp dp n : Nat) : dh_c h a b sp dp n = hr h b (va_cpy (h a) (h b) sp dp n) := rfl
theorem dh_up {P : Nat → Prop} (N : Nat) (hN : P N) (hs : ∀ i, i < N → P (i + 1) → P i) (i : Nat) (hi : i ≤ N) : P i := by
  obtain ⟨k, hk⟩ := Nat.le.dest hi
  induction k generalizing i with
  | zero => rw [show i = N by omega]; exact hN
  | succ k ih => exact hs i (by omega) (ih (i + 1) (by omega) (by omega))
theorem dh_down {P : Nat → Prop} (h0 : P 0) (hs : ∀ i, P i → P (i + 1)) (i : Nat) : P i := by
  induction i with
  | zero => exact h0
  | succ k ih => exact hs k ih
def stF (f : Nat → Bool) : Nat → Int32
  | 0 => nI 0
  | i + 1 => stF f i ||| (if f i then nI 1 <<< (nI i &&& 31) else nI 0)
theorem stF_t {f : Nat → Bool} {i : Nat} (e : f i = true) : stF f (i + 1) = stF f i ||| (nI 1 <<< (nI i &&& 31)) := by simp [stF, e]
theorem stF_f {f : Nat → Bool} {i : Nat} (e : f i = false) : stF f (i + 1) = stF f i ||| nI 0 := by simp [stF, e]
theorem or_n0 (x : Int32) : x ||| nI 0 = x := by
  rw [nI_0]
  exact Int32.or_zero
theorem stF_congr {f g : Nat → Bool} {n : Nat} (e : ∀ i, i < n → f i = g i) : stF f n = stF g n := by
  induction n with
  | zero => rfl
  | succ k ih => simp only [stF, ih (fun i hi => e i (by omega)), e k (by omega)]
def laF (f : Nat → Bool) : Nat → Int32
  | 0 => -1
  | i + 1 => if f i then nI i else laF f i
/-- x is the number of one of n things -/
def ixB (x : Int32) (n : Nat) : Bool := decide (¬ (x < 0 ∨ n ≤ x.toNatClampNeg))
theorem ixB_in {x : Int32} {n : Nat} : ixB x n = true ↔ vp_in x n := by simp [ixB, vp_in]
theorem ixB_nI {c n : Nat} (hc : c < 2 ^ 31) : ixB (nI c) n = decide (c < n) := by
  unfold ixB
  rw [nI_clamp hc]
  have := nI_pos hc
  simp only [this, false_or, Nat.not_le]
theorem ixB_of {x : Int32} {n : Nat} (hn : n < 2 ^ 31) (h : ixB x n = true) : ∃ c, c < n ∧ x = nI c := vp_in_of (ixB_in.mp h) hn
theorem ixB_neg {x : Int32} {n : Nat} (h : x < 0) : ixB x n = false := by simp [ixB, h]
theorem ixB_big {c n : Nat} (hn : n ≤ c) (hc : c < 2 ^ 31) : ixB (nI c) n = false := by rw [ixB_nI hc]; simp; exact hn
/-- none, or one of n -/
def oI (x : Int32) (n : Nat) : Prop := x = -1 ∨ ∃ j, j < n ∧ x = nI j
theorem oI_ix {x : Int32} {n : Nat} (hn : n < 2 ^ 31) (h : oI x n) (h1 : ¬ x = -1) : ∃ j, j < n ∧ x = nI j := by
  rcases h with h | h
  · exact absurd h h1
  · exact h
theorem nI_ne_m1 {n : Nat} (h : n < 2 ^ 31) : ¬ nI n = -1 := by
  intro e
  have h1 := nI_toInt h
  rw [e] at h1
  have h2 : (-1 : Int32).toInt = -1 := by decide
  omega
theorem m1_ne_nI {n : Nat} (h : n < 2 ^ 31) : ¬ (-1 : Int32) = nI n := fun e => nI_ne_m1 h e.symm
def inB (x l m : Int32) : Bool := !decide (x < l) && !decide (m < x)
theorem inB_ix (x : Int32) {n : Nat} (hn : n < 2 ^ 30) : inB x (nI 0) (nI n - nI 1) = ixB x n := by
  have h1 : inB x (nI 0) (nI n - nI 1) = true ↔ ixB x n = true := by
    rw [ixB_in, vp_in_iff]
    simp only [inB, Bool.and_eq_true, Bool.not_eq_true', decide_eq_false_iff_not, Int32.lt_iff_toInt_lt, nI_toInt (show 0 < 2 ^ 31 by decide), pk_sub_toInt hn (show 1 < 2 ^ 30 by decide)]
    omega
  cases ha : inB x (nI 0) (nI n - nI 1) <;> cases hb : ixB x n <;> simp_all
theorem inB_nat (x : Int32) {a b : Nat} (ha : a < 2 ^ 31) (hb : b < 2 ^ 31) : inB x (nI a) (nI b) = true ↔ ∃ c, a ≤ c ∧ c ≤ b ∧ x = nI c := by
  simp only [inB, Bool.and_eq_true, Bool.not_eq_true', decide_eq_false_iff_not, Int32.lt_iff_toInt_lt, nI_toInt ha, nI_toInt hb]
  constructor
  · rintro ⟨h1, h2⟩
    have h0 : ¬ x < 0 := by rw [Int32.lt_iff_toInt_lt, Int32.toInt_zero]; omega
    obtain ⟨j, hj, e⟩ := nI_of h0
    have := nI_toInt hj
    rw [← e] at this
    exact ⟨j, by omega, by omega, e⟩
  · rintro ⟨c, h1, h2, rfl⟩
    rw [nI_toInt (by omega)]
    omega
