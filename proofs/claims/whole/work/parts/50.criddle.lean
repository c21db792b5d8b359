/-! the class's riddle -/
def bcE (x0 : Int32) : Int32 := ((((((((x0 - (((x0.toUInt32 >>> ((nI 1).toUInt32 &&& Int32.toUInt32 31)).toInt32) &&& (nI 1431655765))) &&& (nI 858993459)) + ((((x0 - (((x0.toUInt32 >>> ((nI 1).toUInt32 &&& Int32.toUInt32 31)).toInt32) &&& (nI 1431655765))).toUInt32 >>> ((nI 2).toUInt32 &&& Int32.toUInt32 31)).toInt32) &&& (nI 858993459))) + (((((x0 - (((x0.toUInt32 >>> ((nI 1).toUInt32 &&& Int32.toUInt32 31)).toInt32) &&& (nI 1431655765))) &&& (nI 858993459)) + ((((x0 - (((x0.toUInt32 >>> ((nI 1).toUInt32 &&& Int32.toUInt32 31)).toInt32) &&& (nI 1431655765))).toUInt32 >>> ((nI 2).toUInt32 &&& Int32.toUInt32 31)).toInt32) &&& (nI 858993459))).toUInt32 >>> ((nI 4).toUInt32 &&& Int32.toUInt32 31)).toInt32)) &&& (nI 252645135)) + (((((((x0 - (((x0.toUInt32 >>> ((nI 1).toUInt32 &&& Int32.toUInt32 31)).toInt32) &&& (nI 1431655765))) &&& (nI 858993459)) + ((((x0 - (((x0.toUInt32 >>> ((nI 1).toUInt32 &&& Int32.toUInt32 31)).toInt32) &&& (nI 1431655765))).toUInt32 >>> ((nI 2).toUInt32 &&& Int32.toUInt32 31)).toInt32) &&& (nI 858993459))) + (((((x0 - (((x0.toUInt32 >>> ((nI 1).toUInt32 &&& Int32.toUInt32 31)).toInt32) &&& (nI 1431655765))) &&& (nI 858993459)) + ((((x0 - (((x0.toUInt32 >>> ((nI 1).toUInt32 &&& Int32.toUInt32 31)).toInt32) &&& (nI 1431655765))).toUInt32 >>> ((nI 2).toUInt32 &&& Int32.toUInt32 31)).toInt32) &&& (nI 858993459))).toUInt32 >>> ((nI 4).toUInt32 &&& Int32.toUInt32 31)).toInt32)) &&& (nI 252645135)).toUInt32 >>> ((nI 8).toUInt32 &&& Int32.toUInt32 31)).toInt32)) + ((((((((x0 - (((x0.toUInt32 >>> ((nI 1).toUInt32 &&& Int32.toUInt32 31)).toInt32) &&& (nI 1431655765))) &&& (nI 858993459)) + ((((x0 - (((x0.toUInt32 >>> ((nI 1).toUInt32 &&& Int32.toUInt32 31)).toInt32) &&& (nI 1431655765))).toUInt32 >>> ((nI 2).toUInt32 &&& Int32.toUInt32 31)).toInt32) &&& (nI 858993459))) + (((((x0 - (((x0.toUInt32 >>> ((nI 1).toUInt32 &&& Int32.toUInt32 31)).toInt32) &&& (nI 1431655765))) &&& (nI 858993459)) + ((((x0 - (((x0.toUInt32 >>> ((nI 1).toUInt32 &&& Int32.toUInt32 31)).toInt32) &&& (nI 1431655765))).toUInt32 >>> ((nI 2).toUInt32 &&& Int32.toUInt32 31)).toInt32) &&& (nI 858993459))).toUInt32 >>> ((nI 4).toUInt32 &&& Int32.toUInt32 31)).toInt32)) &&& (nI 252645135)) + (((((((x0 - (((x0.toUInt32 >>> ((nI 1).toUInt32 &&& Int32.toUInt32 31)).toInt32) &&& (nI 1431655765))) &&& (nI 858993459)) + ((((x0 - (((x0.toUInt32 >>> ((nI 1).toUInt32 &&& Int32.toUInt32 31)).toInt32) &&& (nI 1431655765))).toUInt32 >>> ((nI 2).toUInt32 &&& Int32.toUInt32 31)).toInt32) &&& (nI 858993459))) + (((((x0 - (((x0.toUInt32 >>> ((nI 1).toUInt32 &&& Int32.toUInt32 31)).toInt32) &&& (nI 1431655765))) &&& (nI 858993459)) + ((((x0 - (((x0.toUInt32 >>> ((nI 1).toUInt32 &&& Int32.toUInt32 31)).toInt32) &&& (nI 1431655765))).toUInt32 >>> ((nI 2).toUInt32 &&& Int32.toUInt32 31)).toInt32) &&& (nI 858993459))).toUInt32 >>> ((nI 4).toUInt32 &&& Int32.toUInt32 31)).toInt32)) &&& (nI 252645135)).toUInt32 >>> ((nI 8).toUInt32 &&& Int32.toUInt32 31)).toInt32)).toUInt32 >>> ((nI 16).toUInt32 &&& Int32.toUInt32 31)).toInt32)) &&& (nI 63))
theorem bcE_d : ∀ m, m < 64 → bcE (nI m) = nI (pop m) := by decide +kernel
theorem isIn_an_d : ∀ a, a < 64 → ∀ m, m < 64 → ∀ d, d < 6 → isInB (nI a &&& nI m) (nI d) = (Nat.testBit a d && Nat.testBit m d) := by decide +kernel
theorem isIn_an (f : Nat → Bool) {n d m : Nat} (hn : n ≤ 6) (hd : d < n) (hm : m < 64) : isInB (stF f n &&& nI m) (nI d) = (f d && Nat.testBit m d) := by
  obtain ⟨a, ha, hf⟩ := bits6 f
  rw [stF_m hn hf, st_nI_d a ha n hn, isIn_an_d _ (Nat.lt_of_le_of_lt (Nat.mod_le _ _) ha) m hm d (by omega), Nat.testBit_mod_two_pow, hf d (by omega)]
  simp [hd]
theorem clr_d : ∀ m, m < 64 → ∀ d, d < 6 → Nat.testBit m d = true → nI m &&& ((nI 1 <<< (nI d &&& 31)) ^^^ (-1 : Int32)) = nI (m - 2 ^ d) := by decide +kernel
theorem sh_d : ∀ d, d ≤ 6 → nI 1 <<< (nI d &&& 31) = nI (2 ^ d) := by decide +kernel
theorem tal_ix {c : Nat} (hc : c < 6) : [45, 46, 47, 48, 49, 50][c]? = some (45 + c) ∧ dh_LAY[45 + c]? = some (.inr (0, 6, [])) := by
  rcases (show c = 0 ∨ c = 1 ∨ c = 2 ∨ c = 3 ∨ c = 4 ∨ c = 5 by omega) with rfl | rfl | rfl | rfl | rfl | rfl <;> exact ⟨rfl, rfl⟩
/-- whether all that child c took and refused is so, if d is its own -/
def ft (g : dh_H) (T c d : Nat) : Bool := decide (∀ k, k < T → g 73 (3 * k) = nI c → (tkB g c (g 73 (3 * k + 1)).toNatClampNeg (nI d) = true ↔ g 73 (3 * k + 2) = 1))
theorem bI_is {b : Bool} {x : Int32} (hx : x = 0 ∨ x = 1) : bI b = x ↔ (b = true ↔ x = 1) := by
  rcases hx with rfl | rfl <;> cases b <;> decide
section CR
variable {G : dh_G} {h g : dh_H} {C D T : Nat} {Q : Option Value → dh_H → Prop} {ok : Nat → Nat → Bool}
theorem d_bitCount {m : Nat} (hm : m < 64) (k : Q (some (.int (nI (pop m)))) h) : dh_C G mJ6_bitCount_0f7a4 [.int (nI m)] h Q := by
  refine e_J6_bitCount_0f7a4 ?_
  show Q (some (.int (bcE (nI m)))) h
  rw [bcE_d m hm]
  exact k
/-- nothing but the riddle's own rows has changed -/
def fK (h h1 : dh_H) : Prop := (∀ a, a ≠ 37 → ¬ (41 ≤ a ∧ a ≤ 43) → ¬ (45 ≤ a ∧ a ≤ 50) → h1 a = h a) ∧ h1 37 1 = h 37 1
theorem fK_rf (h : dh_H) : fK h h := ⟨fun _ _ _ _ => rfl, rfl⟩
theorem fK_s {h h1 : dh_H} (f : fK h h1) {i k : Nat} {x : Int32} (hi : (41 ≤ i ∧ i ≤ 43) ∨ (45 ≤ i ∧ i ≤ 50)) : fK h (dh_s h1 i k x) := ⟨fun a h1 h2 h3 => by rw [dh_s_n (by omega)]; exact f.1 a h1 h2 h3, by rw [dh_s_n (by omega)]; exact f.2⟩
theorem PR_fK {h h1 : dh_H} (hP : PR h g C D) (f : fK h h1) : PR h1 g C D := PR_cg hP (fun a h1 h2 => f.1 a (by omega) (by omega) (by omega)) (fun _ _ _ => rfl)
theorem RI_fK {h h1 : dh_H} (hR : RI h g C D T) (f : fK h h1) : RI h1 g C D T := by
  unfold RI at hR ⊢
  rw [f.2, f.1 38 (by decide) (by omega) (by omega), f.1 39 (by decide) (by omega) (by omega), f.1 40 (by decide) (by omega) (by omega)]
  exact hR
theorem d_fits {c d : Nat} (hP : PR h g C D) (hR : RI h g C D T) (hc : c < C) (hd : d < D) (k : Q (some (.int (bI (ft g T c d)))) h) : dh_C G mX7_fits [.ref 37, .int (nI c), .int (nI d)] h Q := by
  have hP' := hP
  obtain ⟨eC, hC, eD, hD, -, -⟩ := hP'
  obtain ⟨t1, t2, t3, t4⟩ := hR
  refine e_X7_fits (dh_up (P := fun i => (∀ k, k < i → g 73 (3 * k) = nI c → (tkB g c (g 73 (3 * k + 1)).toNatClampNeg (nI d) = true ↔ g 73 (3 * k + 2) = 1)) → dh_J G mX7_fits 2 [some (.ref 37), some (.int (nI c)), some (.int (nI d)), some (.int (nI i))] [] h Q) T ?_ ?_ 0 (by omega) (fun k hk => by omega))
  · intro hk
    refine w_X7_fits_2 ?_
    rw [t1]
    refine ⟨fun _ => ?_, fun z => absurd (Int32.le_refl _) z⟩
    have : ft g T c d = true := by unfold ft; exact decide_eq_true hk
    rw [this] at k
    exact k
  · intro i hi ih hk
    obtain ⟨q1, q2, q3, ⟨c', hc', q4⟩, ⟨d', hd', q5⟩, q6⟩ := t4 i hi
    refine w_X7_fits_2 ?_
    rw [t1, nI_leI (by omega) (by omega), nI_clamp (by omega), nI_add, q1, q2]
    refine ⟨fun z => by omega, fun _ => ⟨vp_in_nI (by omega) (by decide), fun z => ih (fun k hk2 hk3 => ?_), fun z => ⟨vp_in_nI (by omega) (by decide), d_takesOwning hP hc (Or.inr ⟨d, hd, rfl⟩) (w_X7_fits_35 ?_)⟩⟩⟩
    · by_cases y : k = i
      · subst y; exact absurd hk3 z
      · exact hk k (by omega) hk3
    · rw [nI_clamp (show i < 2 ^ 31 by omega), q3, bI_is q6, nI_add]
      have e5 : ixB (g 73 (3 * i + 1)) D = true := by rw [q5, ixB_nI (by omega)]; simpa using hd'
      rw [e5, Bool.true_and]
      refine ⟨vp_in_nI (by omega) (by decide), fun y => ih (fun k hk2 hk3 => ?_), fun y => ?_⟩
      · by_cases y2 : k = i
        · subst y2; exact y
        · exact hk k (by omega) hk3
      · have : ft g T c d = false := by
          unfold ft
          exact decide_eq_false (fun hall => y (hall i hi z))
        rw [this] at k
        exact k
/-- what is allowed -/
def RA (h : dh_H) (ok : Nat → Nat → Bool) (C D : Nat) : Prop := h 3 3 = nI C ∧ h 3 4 = nI D ∧ ∀ c, c < C → h 41 c = stF (ok c) D
def RH (h : dh_H) (ok : Nat → Nat → Bool) (C D n : Nat) : Prop := ∀ m, m < n → pop m ≤ C → h 42 m = nI (aW ok D (pop m) m)
def RB (h : dh_H) (ok : Nat → Nat → Bool) (C D n : Nat) : Prop := ∀ m, n ≤ m → m < 2 ^ D → h 43 m = nI (nW ok D (C - pop m) (pop m) m)
theorem RA_s {h : dh_H} (a : RA h ok C D) {i k : Nat} {x : Int32} (hi : 42 ≤ i) : RA (dh_s h i k x) ok C D := by
  unfold RA at a ⊢
  rw [dh_s_n (by omega), dh_s_n (by omega)]
  exact a
theorem d_sumAhead {m : Nat} (hC : C ≤ 6) (hD : D ≤ 6) (hm : m < 2 ^ D) (hm0 : m ≠ 0) (A : RA h ok C D) (B : RH h ok C D m) (k : ∀ x, (pop m ≤ C → x = nI (aW ok D (pop m) m)) → Q (some (.int x)) h) : dh_C G mX7_sumAhead [.ref 37, .int (nI m), .int (nI (pop m) - nI 1)] h Q := by
  obtain ⟨eC, eD, eA⟩ := A
  have h64 : 2 ^ D ≤ 64 := Nat.pow_le_pow_right (n := 2) (by decide) hD
  have hp : 0 < pop m := by
    have : ∀ m, m < 64 → m ≠ 0 → 0 < pop m := by decide +kernel
    exact this m (by omega) hm0
  have hp6 := pop_le m
  have e1 : nI (pop m) - nI 1 = nI (pop m - 1) := by rw [pk_sub (by omega)]
  rw [e1]
  refine e_X7_sumAhead ?_
  by_cases hpc : pop m ≤ C
  · have eW : aW ok D (pop m) m = suN (fun d => if ok (pop m - 1) d && Nat.testBit m d then aW ok D (pop m - 1) (m - 2 ^ d) else 0) D := by
      obtain ⟨j, hj⟩ : ∃ j, pop m = j + 1 := ⟨pop m - 1, by omega⟩
      rw [hj]
      rfl
    refine dh_up (P := fun d => dh_J G mX7_sumAhead 5 [some (.ref 37), some (.int (nI m)), some (.int (nI (pop m - 1))), some (.int (nI (suN (fun d => if ok (pop m - 1) d && Nat.testBit m d then aW ok D (pop m - 1) (m - 2 ^ d) else 0) d))), some (.int (nI d))] [] h Q) D ?_ ?_ 0 (by omega)
    · refine w_X7_sumAhead_5 ?_
      rw [eD]
      exact ⟨fun _ => k _ (fun _ => by rw [eW]), fun z => absurd (Int32.le_refl _) z⟩
    · intro d hd ih
      refine w_X7_sumAhead_5 ?_
      rw [eD, nI_leI (by omega) (by omega)]
      refine ⟨fun z => by omega, fun _ => d_hasChild eC hC (w_X7_sumAhead_25 ⟨fun z => ?_, fun _ => ?_⟩)⟩
      · rw [bI_0, ixB_nI (by omega)] at z
        simp at z
        omega
      · rw [nI_clamp (by omega), eA _ (by omega)]
        refine ⟨vp_in_nI (by omega) (by decide), d_isIn ?_⟩
        rw [isIn_an (ok (pop m - 1)) hD hd (by omega)]
        refine w_X7_sumAhead_41 ⟨fun z => ?_, fun z => ?_⟩
        · rw [bI_0] at z
          rw [nI_add]
          have : suN (fun d => if ok (pop m - 1) d && Nat.testBit m d then aW ok D (pop m - 1) (m - 2 ^ d) else 0) (d + 1) = suN (fun d => if ok (pop m - 1) d && Nat.testBit m d then aW ok D (pop m - 1) (m - 2 ^ d) else 0) d := by
            show suN _ d + (if _ then _ else _) = _
            rw [if_neg (by rw [z]; decide), Nat.add_zero]
          rw [this] at ih
          exact ih
        · rw [bI_n0] at z
          have z2 := z
          rw [Bool.and_eq_true] at z2
          obtain ⟨p1, p2, -⟩ := (pop_d m (by omega) d (by omega)).1 z2.2
          rw [clr_d m (by omega) d (by omega) z2.2, nI_clamp (by omega), B _ p2 (by omega), nI_add, nI_add]
          refine ⟨vp_in_nI (by omega) (by decide), ?_⟩
          have : suN (fun d => if ok (pop m - 1) d && Nat.testBit m d then aW ok D (pop m - 1) (m - 2 ^ d) else 0) (d + 1) = suN (fun d => if ok (pop m - 1) d && Nat.testBit m d then aW ok D (pop m - 1) (m - 2 ^ d) else 0) d + aW ok D (pop (m - 2 ^ d)) (m - 2 ^ d) := by
            show suN _ d + (if _ then _ else _) = _
            rw [if_pos z, show pop m - 1 = pop (m - 2 ^ d) by omega]
          rw [this] at ih
          exact ih
  · refine w_X7_sumAhead_5 ⟨fun _ => k _ (fun z => absurd z hpc), fun _ => d_hasChild eC hC (w_X7_sumAhead_25 ⟨fun _ => k _ (fun z => absurd z hpc), fun z => ?_⟩)⟩
    rw [bI_n0, ixB_nI (by omega)] at z
    simp at z
    omega
/-- the tally, the sets from n on being counted -/
def RT (h : dh_H) (ok : Nat → Nat → Bool) (C D n : Nat) : Prop := ∀ c e, c < C → e < D → h (45 + c) e = nI (suN (tf ok D C c e) (2 ^ D) - suN (tf ok D C c e) n)
theorem RT_0 {h : dh_H} {m : Nat} (R : RT h ok C D (m + 1)) {c e : Nat} (hc : c < C) (he : e < D) (hz : tf ok D C c e m = 0) : h (45 + c) e = nI (suN (tf ok D C c e) (2 ^ D) - suN (tf ok D C c e) m) := by
  rw [R c e hc he]
  show nI (_ - (suN (tf ok D C c e) m + tf ok D C c e m)) = _
  rw [hz, Nat.add_zero]
theorem bt_lt2 {m d : Nat} (hm : m < 2 ^ D) (hd : d < D) : bt m d < 2 ^ D := by
  unfold bt
  exact Nat.or_lt_two_pow hm (Nat.pow_lt_pow_right (by decide) hd)
theorem d_sumBehind {m : Nat} (hC : C ≤ 6) (hD : D ≤ 6) (hm : m < 2 ^ D) (A : RA h ok C D) (H : RH h ok C D (2 ^ D)) (B : RB h ok C D (m + 1)) (R : RT h ok C D (m + 1))
    (k : ∀ h1, fK h h1 → RA h1 ok C D → h1 42 = h 42 → h1 43 = h 43 → RT h1 ok C D m → Q (some (.int (nI (nW ok D (C - pop m) (pop m) m)))) h1) : dh_C G mX7_sumBehind [.ref 37, .int (nI m), .int (nI (pop m))] h Q := by
  have A' := A
  obtain ⟨eC, eD, eA⟩ := A'
  have h64 : 2 ^ D ≤ 64 := Nat.pow_le_pow_right (n := 2) (by decide) hD
  have hp6 := pop_le m
  refine e_X7_sumBehind (d_hasChild eC hC (w_X7_sumBehind_8 ⟨fun z => ?_, fun z => ?_⟩))
  · rw [bI_n0, ixB_nI (by omega)] at z
    have hpc : pop m < C := by simpa using z
    have ix := tal_ix (c := pop m) (by omega)
    have eN : nW ok D (C - pop m) (pop m) m = suN (fun d => if fr ok (pop m) m d then nW ok D (C - (pop m + 1)) (pop m + 1) (bt m d) else 0) D := by
      rw [show C - pop m = C - (pop m + 1) + 1 by omega]
      rfl
    refine dh_up (P := fun d => ∀ hh, fK h hh → RA hh ok C D → hh 42 = h 42 → hh 43 = h 43 → (∀ c e, c < C → e < D → hh (45 + c) e = nI (suN (tf ok D C c e) (2 ^ D) - suN (tf ok D C c e) (if c = pop m ∧ d ≤ e then m + 1 else m))) → dh_J G mX7_sumBehind 18 [some (.ref 37), some (.int (nI m)), some (.int (nI (pop m))), some (.int (nI (suN (fun d => if fr ok (pop m) m d then nW ok D (C - (pop m + 1)) (pop m + 1) (bt m d) else 0) d))), some (.int (nI d)), none] [] hh Q) D ?_ ?_ 0 (by omega) h (fK_rf h) A rfl rfl (fun c e hc he => ?_)
    · intro hh f A e42 e43 R
      refine w_X7_sumBehind_18 ?_
      rw [A.2.1]
      refine ⟨fun _ => ?_, fun y => absurd (Int32.le_refl _) y⟩
      rw [← eN]
      refine k hh f A e42 e43 (fun c e hc he => ?_)
      rw [R c e hc he, if_neg (by omega)]
    · intro d hd ih hh f A e42 e43 R
      refine w_X7_sumBehind_18 ?_
      rw [A.2.1, nI_leI (by omega) (by omega), nI_clamp (by omega), A.2.2 _ hpc]
      refine ⟨fun y => by omega, fun _ => ⟨vp_in_nI (by omega) (by decide), d_isIn ?_⟩⟩
      rw [isIn_nd (ok (pop m)) hD hd (by omega)]
      refine w_X7_sumBehind_45 ⟨fun y => ?_, fun y => ?_⟩
      · rw [bI_0] at y
        have hfr : fr ok (pop m) m d = false := y
        rw [nI_add]
        have : suN (fun d => if fr ok (pop m) m d then nW ok D (C - (pop m + 1)) (pop m + 1) (bt m d) else 0) (d + 1) = suN (fun d => if fr ok (pop m) m d then nW ok D (C - (pop m + 1)) (pop m + 1) (bt m d) else 0) d := by
          show suN _ d + (if _ then _ else _) = _
          rw [if_neg (by rw [hfr]; decide), Nat.add_zero]
        rw [this] at ih
        refine ih hh f A e42 e43 (fun c e hc he => ?_)
        rw [R c e hc he]
        by_cases w : c = pop m ∧ e = d
        · obtain ⟨w1, w2⟩ := w
          subst w1
          subst w2
          rw [if_pos ⟨rfl, Nat.le_refl _⟩, if_neg (by omega)]
          have hz : tf ok D C (pop m) e m = 0 := by unfold tf; rw [if_pos rfl, if_neg (by rw [hfr]; decide)]
          show nI (_ - (suN (tf ok D C (pop m) e) m + tf ok D C (pop m) e m)) = _
          rw [hz, Nat.add_zero]
        · by_cases w2 : c = pop m ∧ d ≤ e
          · rw [if_pos w2, if_pos (by omega)]
          · rw [if_neg w2, if_neg (by omega)]
      · rw [bI_n0] at y
        have hfr : fr ok (pop m) m d = true := y
        have hnb : Nat.testBit m d = false := by
          have y2 := y
          rw [Bool.and_eq_true] at y2
          simpa using y2.2
        obtain ⟨p1, p2⟩ := (pop_d m (by omega) d (by omega)).2 hnb
        have hbl := bt_lt2 hm hd
        rw [nIbt (by omega) (by omega), nI_clamp (show bt m d < 2 ^ 31 by omega), nI_clamp (show pop m < 2 ^ 31 by omega), nI_clamp (show d < 2 ^ 31 by omega), nI_clamp (show m < 2 ^ 31 by omega), nI_add]
        refine ⟨vp_in_nI (by omega) (by decide), vp_in_nI (by omega) (by decide), 45 + pop m, ix.1, ix.2, vp_in_nI (by omega) (by decide), vp_in_nI (by omega) (by decide), vp_in_nI (by omega) (by decide), ?_⟩
        have e43b : hh 43 (bt m d) = nI (nW ok D (C - (pop m + 1)) (pop m + 1) (bt m d)) := by rw [e43, B _ (by omega) hbl, p1]
        have e42b : hh 42 m = nI (aW ok D (pop m) m) := by rw [e42, H m hm (by omega)]
        rw [e43b, e42b, R (pop m) d hpc hd, if_pos ⟨rfl, Nat.le_refl _⟩, pk_mul, nI_add, nI_add]
        have : suN (fun d => if fr ok (pop m) m d then nW ok D (C - (pop m + 1)) (pop m + 1) (bt m d) else 0) (d + 1) = suN (fun d => if fr ok (pop m) m d then nW ok D (C - (pop m + 1)) (pop m + 1) (bt m d) else 0) d + nW ok D (C - (pop m + 1)) (pop m + 1) (bt m d) := by
          show suN _ d + (if _ then _ else _) = _
          rw [if_pos hfr]
        rw [this] at ih
        refine ih _ (fK_s f (by omega)) (RA_s A (by omega)) (by rw [dh_s_n (by omega)]; exact e42) (by rw [dh_s_n (by omega)]; exact e43) (fun c e hc he => ?_)
        by_cases w : c = pop m
        · subst w
          by_cases w2 : e = d
          · subst w2
            rw [dh_s_eq, if_neg (by omega)]
            have hz : tf ok D C (pop m) e m = aW ok D (pop m) m * nW ok D (C - (pop m + 1)) (pop m + 1) (bt m e) := by unfold tf; rw [if_pos rfl, if_pos hfr]
            have hle : suN (tf ok D C (pop m) e) (m + 1) ≤ suN (tf ok D C (pop m) e) (2 ^ D) := suN_le hm
            have hs : suN (tf ok D C (pop m) e) (m + 1) = suN (tf ok D C (pop m) e) m + tf ok D C (pop m) e m := rfl
            rw [← hz]
            congr 1
            omega
          · rw [dh_s_nk w2, R _ e hc he]
            by_cases w3 : d ≤ e
            · rw [if_pos ⟨rfl, w3⟩, if_pos ⟨rfl, by omega⟩]
            · rw [if_neg (by omega), if_neg (by omega)]
        · rw [dh_s_n (by omega), R c e hc he, if_neg (by omega), if_neg (by omega)]
    · by_cases w : c = pop m
      · rw [if_pos ⟨w, by omega⟩]
        exact R c e hc he
      · rw [if_neg (by omega)]
        refine RT_0 R hc he ?_
        unfold tf
        rw [if_neg (fun z => w z.symm)]
  · rw [bI_0, ixB_nI (by omega)] at z
    have hpc : ¬ pop m < C := by simpa using z
    have eN : nW ok D (C - pop m) (pop m) m = 1 := by rw [show C - pop m = 0 by omega]; rfl
    rw [eN] at k
    refine k h (fK_rf h) A rfl rfl (fun c e hc he => RT_0 R hc he ?_)
    unfold tf
    rw [if_neg (by omega)]
/-- the riddle solved -/
def SV (h : dh_H) (ok : Nat → Nat → Bool) (C D : Nat) : Prop := h 3 3 = nI C ∧ h 3 4 = nI D ∧ h 37 6 = nI (nW ok D C 0 0) ∧ ∀ c e, c < C → e < D → h (45 + c) e = nI (tW ok D C c e)
theorem d_countWays (hC : C ≤ 6) (hD : D ≤ 6) (A : RA h ok C D) (Z : ∀ c e, c < C → e < D → h (45 + c) e = nI 0) (k : ∀ h1, fK h h1 → SV h1 ok C D → Q none h1) : dh_C G mX7_countWays [.ref 37] h Q := by
  have h64 : 2 ^ D ≤ 64 := Nat.pow_le_pow_right (n := 2) (by decide) hD
  have h1 : 0 < 2 ^ D := Nat.pow_pos (by decide)
  -- from the last set on
  have down : ∀ n hh, n ≤ 2 ^ D → fK h hh → RA hh ok C D → RH hh ok C D (2 ^ D) → RB hh ok C D n → RT hh ok C D n → dh_J G mX7_countWays 63 [some (.ref 37), none, some (.int (nI n - nI 1))] [] hh Q := by
    intro n
    induction n with
    | zero =>
      intro hh _ f A H B R
      refine w_X7_countWays_63 ⟨fun _ => k _ ⟨fun a h1 h2 h3 => by rw [dh_s_n h1]; exact f.1 a h1 h2 h3, by rw [dh_s_nk (by decide)]; exact f.2⟩ ⟨A.1, A.2.1, ?_, fun c e hc he => ?_⟩, fun z => absurd (by decide) z⟩
      · rw [dh_s_eq]
        exact B 0 (by omega) h1
      · rw [dh_s_n (by omega), R c e hc he, ← tW_tf hD hc he]
        rfl
    | succ n ih =>
      intro hh hn f A H B R
      have e : nI (n + 1) - nI 1 = nI n := by rw [pk_sub (by omega)]; rfl
      rw [e]
      refine w_X7_countWays_63 ⟨fun z => absurd z (nI_pos (by omega)), fun _ => d_bitCount (by omega) (w_X7_countWays_78 (d_sumBehind hC hD (by omega) A H B R (fun h2 f2 A2 e42 e43 R2 => w_X7_countWays_81 ⟨vp_in_nI (by omega) (by decide), ?_⟩)))⟩
      rw [show nI n + (-1 : Int32) = nI n - nI 1 by rw [Int32.sub_eq_add_neg]; rfl, nI_clamp (by omega)]
      refine ih _ (by omega) (fK_s ⟨fun a x1 x2 x3 => (f2.1 a x1 x2 x3).trans (f.1 a x1 x2 x3), f2.2.trans f.2⟩ (Or.inl ⟨by decide, by decide⟩)) (RA_s A2 (by decide)) (fun m hm hp => by rw [dh_s_n (by decide), e42]; exact H m hm hp) (fun m hm1 hm2 => ?_) (fun c e hc he => by rw [dh_s_n (by omega)]; exact R2 c e hc he)
      by_cases y : m = n
      · subst y
        rw [dh_s_eq]
      · rw [dh_s_nk y, e43]
        exact B m (by omega) hm2
  refine e_X7_countWays ?_
  rw [A.2.1, sh_d D hD]
  refine dh_up (P := fun n => ∀ hh, fK h hh → RA hh ok C D → RH hh ok C D n → (∀ c e, c < C → e < D → hh (45 + c) e = nI 0) → dh_J G mX7_countWays 12 [some (.ref 37), some (.int (nI (2 ^ D))), some (.int (nI n))] [] hh Q) (2 ^ D) ?_ ?_ 0 (by omega) h (fK_rf h) A (fun m hm => by omega) Z
  · intro hh f A H Z
    refine w_X7_countWays_12 ⟨fun _ => ?_, fun z => absurd (Int32.le_refl _) z⟩
    rw [if_neg (by rw [nI_ltI (by decide) (by omega)]; omega)]
    refine down _ hh (Nat.le_refl _) f A H (fun m hm1 hm2 => by omega) (fun c e hc he => ?_)
    rw [Z c e hc he, Nat.sub_self]
  · intro n hn ih hh f A H Z
    have stp : ∀ x, (pop n ≤ C → x = nI (aW ok D (pop n) n)) → (vp_in (nI n) 64) ∧ dh_J G mX7_countWays 12 [some (.ref 37), some (.int (nI (2 ^ D))), some (.int (nI n + nI 1))] [] (dh_s hh 42 (nI n).toNatClampNeg x) Q := by
      intro x hx
      rw [nI_add, nI_clamp (by omega)]
      refine ⟨vp_in_nI (by omega) (by decide), ih _ (fK_s f (Or.inl ⟨by decide, by decide⟩)) (RA_s A (by decide)) (fun m hm hp => ?_) (fun c e hc he => by rw [dh_s_n (by omega)]; exact Z c e hc he)⟩
      by_cases y : m = n
      · subst y
        rw [dh_s_eq]
        exact hx hp
      · rw [dh_s_nk y]
        exact H m (by omega) hp
    refine w_X7_countWays_12 ?_
    rw [nI_leI (by omega) (by omega), nI_leI (by decide) (by omega)]
    refine ⟨fun z => by omega, fun _ => ⟨fun z => by omega, fun _ => ⟨fun z => d_bitCount (by omega) (w_X7_countWays_42 (d_sumAhead hC hD hn (fun y => z (by rw [y]; rfl)) A H (fun x hx => w_X7_countWays_47 (stp x hx)))), fun z => w_X7_countWays_47 (stp _ (fun _ => ?_))⟩⟩⟩
    have : n = 0 := by
      rw [← nI_0, nI_eq (by omega) (by decide)] at z
      exact z
    subst this
    rfl
theorem d_solve (hP : PR h g C D) (hR : RI h g C D T) (k : ∀ h1, fK h h1 → SV h1 (ft g T) C D → Q none h1) : dh_C G mX7_solve [.ref 37] h Q := by
  have hP' := hP
  obtain ⟨eC, hC, eD, hD, -, -⟩ := hP'
  have e3 : ∀ hh, fK h hh → hh 3 = h 3 := fun hh f => f.1 3 (by decide) (by omega) (by omega)
  refine e_X7_solve (dh_up (P := fun c => ∀ hh, fK h hh → (∀ c', c' < c → hh 41 c' = stF (ft g T c') D) → (∀ c' e, c' < c → e < D → hh (45 + c') e = nI 0) → dh_J G mX7_solve 2 [some (.ref 37), some (.int (nI c)), none] [] hh Q) C ?_ ?_ 0 (by omega) h (fK_rf h) (fun c' hc' => by omega) (fun c' e hc' => by omega))
  · intro hh f ea ez
    refine w_X7_solve_2 ?_
    rw [e3 hh f, eC]
    exact ⟨fun _ => d_countWays hC hD ⟨by rw [e3 hh f]; exact eC, by rw [e3 hh f]; exact eD, ea⟩ ez (fun h1 f1 S => w_X7_solve_79 (k h1 ⟨fun a x1 x2 x3 => (f1.1 a x1 x2 x3).trans (f.1 a x1 x2 x3), f1.2.trans f.2⟩ S)), fun z => absurd (Int32.le_refl _) z⟩
  · intro c hc ih hh f ea ez
    have ix := tal_ix (c := c) (by omega)
    refine w_X7_solve_2 ?_
    rw [e3 hh f, eC, nI_leI (by omega) (by omega), nI_clamp (by omega)]
    refine ⟨fun z => by omega, fun _ => ⟨vp_in_nI (by omega) (by decide), ?_⟩⟩
    refine dh_up (P := fun d => ∀ hh, fK h hh → (∀ c', c' < c → hh 41 c' = stF (ft g T c') D) → (∀ c' e, c' < c → e < D → hh (45 + c') e = nI 0) → hh 41 c = stF (ft g T c) d → (∀ e, e < d → hh (45 + c) e = nI 0) → dh_J G mX7_solve 22 [some (.ref 37), some (.int (nI c)), some (.int (nI d))] [] hh Q) D ?_ ?_ 0 (by omega) _ (fK_s f (Or.inl ⟨by decide, by decide⟩)) (fun c' hc' => by rw [dh_s_nk (by omega)]; exact ea c' hc') (fun c' e hc' he => by rw [dh_s_n (by omega)]; exact ez c' e hc' he) (dh_s_eq _ _ _ _) (fun e he => by omega)
    · intro hh f ea ez ec et
      refine w_X7_solve_22 ?_
      rw [e3 hh f, eD, nI_add]
      refine ⟨fun _ => ih hh f (fun c' hc' => ?_) (fun c' e hc' he => ?_), fun z => absurd (Int32.le_refl _) z⟩
      · by_cases y : c' = c
        · subst y; exact ec
        · exact ea c' (by omega)
      · by_cases y : c' = c
        · subst y; exact et e he
        · exact ez c' e (by omega) he
    · intro d hd ih2 hh f ea ez ec et
      refine w_X7_solve_22 ?_
      rw [e3 hh f, eD, nI_leI (by omega) (by omega), nI_clamp (by omega), nI_clamp (by omega)]
      refine ⟨fun z => by omega, fun _ => ⟨vp_in_nI (by omega) (by decide), 45 + c, ix.1, ix.2, vp_in_nI (by omega) (by decide), ?_⟩⟩
      have f2 : fK h (dh_s hh (45 + c) d (nI 0)) := fK_s f (by omega)
      have ea2 : ∀ c', c' < c → dh_s hh (45 + c) d (nI 0) 41 c' = stF (ft g T c') D := fun c' hc' => by rw [dh_s_n (by omega)]; exact ea c' hc'
      have ez2 : ∀ c' e, c' < c → e < D → dh_s hh (45 + c) d (nI 0) (45 + c') e = nI 0 := fun c' e hc' he => by rw [dh_s_n (by omega)]; exact ez c' e hc' he
      have ec2 : dh_s hh (45 + c) d (nI 0) 41 c = stF (ft g T c) d := by rw [dh_s_n (by omega)]; exact ec
      have et2 : ∀ e, e < d + 1 → dh_s hh (45 + c) d (nI 0) (45 + c) e = nI 0 := fun e he => by
        by_cases y : e = d
        · subst y; rw [dh_s_eq]
        · rw [dh_s_nk y]; exact et e (by omega)
      generalize dh_s hh (45 + c) d (nI 0) = h2 at f2 ea2 ez2 ec2 et2
      refine d_fits (PR_fK hP f2) (RI_fK hR f2) hc hd (w_X7_solve_48 ⟨fun z => ?_, fun z => ?_⟩)
      · rw [bI_0] at z
        rw [nI_add]
        exact ih2 h2 f2 ea2 ez2 (by rw [stF_f z, or_n0]; exact ec2) et2
      · rw [bI_n0] at z
        rw [nI_add, nI_clamp (by omega)]
        refine ⟨vp_in_nI (by omega) (by decide), vp_in_nI (by omega) (by decide), ih2 _ (fK_s f2 (Or.inl ⟨by decide, by decide⟩)) (fun c' hc' => by rw [dh_s_nk (by omega)]; exact ea2 c' hc') (fun c' e hc' he => by rw [dh_s_n (by omega)]; exact ez2 c' e hc' he) ?_ (fun e he => by rw [dh_s_n (by omega)]; exact et2 e he)⟩
        rw [dh_s_eq, ec2, stF_t z]
end CR
