/-! the model's reads -/
section MR
variable {G : dh_G} {h : dh_H} {Q : Option Value → dh_H → Prop}
theorem c_in {x l m : Int32} (k : Q (some (.int (bI (inB x l m)))) h) : dh_C G mX10_in [.int x, .int l, .int m] h Q := by
  refine e_X10_in ⟨fun c => ?_, fun c => ⟨fun c2 => ?_, fun c2 => ?_⟩⟩
  · simpa [inB, c, bI] using k
  · simpa [inB, c, c2, bI] using k
  · simpa [inB, c, c2, bI] using k
def hasB (s x : Int32) : Bool := decide ((s >>> (x &&& 31)) &&& nI 1 = nI 1)
theorem c_has {s x : Int32} (k : Q (some (.int (bI (hasB s x)))) h) : dh_C G mX10_has [.int s, .int x] h Q := by
  refine e_X10_has ⟨fun c => ?_, fun c => ?_⟩
  · simpa [hasB, c, bI] using k
  · simpa [hasB, c, bI] using k
/-- the model's numbers -/
def mN (h : dh_H) (C D : Nat) : Prop := h 61 19 = nI C ∧ C ≤ 6 ∧ h 61 20 = nI D ∧ D ≤ 6
theorem c_isChild {x : Int32} {C D : Nat} (hN : mN h C D) (k : Q (some (.int (bI (ixB x C)))) h) : dh_C G mX10_isChild [.ref 61, .int x] h Q := by
  refine e_X10_isChild (c_in ?_)
  refine w_X10_isChild_11 ⟨bI_01 _, ?_⟩
  rw [hN.1, inB_ix x (by have := hN.2.1; omega)]
  exact k
theorem c_isDummy {x : Int32} {C D : Nat} (hN : mN h C D) (k : Q (some (.int (bI (ixB x D)))) h) : dh_C G mX10_isDummy [.ref 61, .int x] h Q := by
  refine e_X10_isDummy (c_in ?_)
  refine w_X10_isDummy_11 ⟨bI_01 _, ?_⟩
  rw [hN.2.2.1, inB_ix x (by have := hN.2.2.2; omega)]
  exact k
/-- whether child c takes dummy d if mine were its own -/
def tkB (h : dh_H) (c d : Nat) (mine : Int32) : Bool :=
  if nI d = mine then true
  else if h 65 (2 * c) = nI 3 then true
  else if mine = -1 then false
  else if h 65 (2 * c) = 0 then false
  else if h 65 (2 * c) = nI 1 then decide (h 66 (4 * d + 1) = h 66 (4 * mine.toNatClampNeg + 1))
  else decide (h 66 (4 * d) = h 66 (4 * mine.toNatClampNeg))
theorem c_takesBy {c d : Nat} {mine : Int32} (hc : c < 6) (hd : d < 6) (hm : oI mine 6) (k : Q (some (.int (bI (tkB h c d mine)))) h) : dh_C G mX10_takesBy [.ref 61, .int (nI c), .int (nI d), .int mine] h Q := by
  refine e_X10_takesBy ?_
  simp (disch := omega) only [pk_mul, nI_add, nI_clamp]
  refine ⟨vp_in_nI (by omega) (by omega), fun c1 => ?_, fun c1 => ⟨fun c2 => ⟨fun c3 => ?_, fun c3 => ⟨fun c4 => ?_, fun c4 => ?_⟩⟩, fun c2 => ?_⟩⟩
  · simpa [tkB, c1, bI] using k
  · rw [show tkB h c d mine = false by unfold tkB; rw [if_neg c1, if_neg c2, if_pos c3]] at k; exact k
  · obtain ⟨m, hm6, rfl⟩ := oI_ix (by omega) hm c3
    simp (disch := omega) only [pk_mul, nI_add, nI_clamp]
    refine ⟨fun c5 => ⟨vp_in_nI (by omega) (by omega), vp_in_nI (by omega) (by omega), fun c6 => ?_, fun c6 => ?_⟩, fun c5 => ⟨vp_in_nI (by omega) (by omega), vp_in_nI (by omega) (by omega), fun c6 => ?_, fun c6 => ?_⟩⟩
    · rw [show tkB h c d (nI m) = false by unfold tkB; rw [if_neg c1, if_neg c2, if_neg c3, if_neg c4, if_neg c5, nI_clamp (by omega)]; simp [c6]] at k; exact k
    · rw [show tkB h c d (nI m) = true by unfold tkB; rw [if_neg c1, if_neg c2, if_neg c3, if_neg c4, if_neg c5, nI_clamp (by omega)]; simp [c6]] at k; exact k
    · rw [show tkB h c d (nI m) = false by unfold tkB; rw [if_neg c1, if_neg c2, if_neg c3, if_neg c4, if_pos c5, nI_clamp (by omega)]; simp [c6]] at k; exact k
    · rw [show tkB h c d (nI m) = true by unfold tkB; rw [if_neg c1, if_neg c2, if_neg c3, if_neg c4, if_pos c5, nI_clamp (by omega)]; simp [c6]] at k; exact k
  · rw [show tkB h c d mine = false by unfold tkB; rw [if_neg c1, if_neg c2, if_neg c3, if_pos c4]] at k; exact k
  · simpa [tkB, c1, c2, bI] using k
/-- every child's own dummy is none or one of them -/
def mO (h : dh_H) (C D : Nat) : Prop := ∀ c, c < C → oI (h 67 c) D
theorem oI_le {x : Int32} {n m : Nat} (hnm : n ≤ m) (h : oI x n) : oI x m := by
  rcases h with h | ⟨j, hj, e⟩
  · exact Or.inl h
  · exact Or.inr ⟨j, by omega, e⟩
def tk (h : dh_H) (c d : Nat) : Bool := tkB h c d (h 67 c)
theorem c_takes {c d C D : Nat} (hN : mN h C D) (hO : mO h C D) (hc : c < C) (hd : d < D) (k : Q (some (.int (bI (tk h c d)))) h) : dh_C G mX10_takes [.ref 61, .int (nI c), .int (nI d)] h Q := by
  obtain ⟨-, hC, -, hD⟩ := hN
  refine e_X10_takes ?_
  simp (disch := omega) only [nI_clamp]
  exact ⟨vp_in_nI (by omega) (by omega), c_takesBy (by omega) (by omega) (oI_le hD (hO c hc)) (w_X10_takes_12 ⟨bI_01 _, k⟩)⟩
/-- every child has none or one of the dummies -/
def mH (h : dh_H) (C D : Nat) : Prop := ∀ c, c < C → oI (h 68 (1 + c)) D
def calm (h : dh_H) (c : Nat) : Bool := if h 68 (1 + c) = -1 then false else tk h c (h 68 (1 + c)).toNatClampNeg
theorem c_isCalm {c C D : Nat} (hN : mN h C D) (hO : mO h C D) (hH : mH h C D) (hc : c < C) (k : Q (some (.int (bI (calm h c)))) h) : dh_C G mX10_isCalm [.ref 61, .int (nI c)] h Q := by
  have hN' := hN
  obtain ⟨-, hC, -, hD⟩ := hN'
  refine e_X10_isCalm ?_
  simp (disch := omega) only [nI_add, nI_clamp]
  refine ⟨vp_in_nI (by omega) (by omega), fun c1 => ?_, fun c1 => ⟨vp_in_nI (by omega) (by omega), ?_⟩⟩
  · simpa [calm, c1, bI] using k
  · obtain ⟨d, hd, e⟩ := oI_ix (by omega) (hH c hc) c1
    rw [e]
    refine c_takes hN hO hc hd ?_
    refine w_X10_isCalm_25 ⟨fun c2 => ?_, fun c2 => ?_⟩
    · rw [bI_0] at c2
      rw [show calm h c = false by unfold calm; rw [if_neg c1, e, nI_clamp (by omega)]; exact c2] at k; exact k
    · rw [bI_n0] at c2
      rw [show calm h c = true by unfold calm; rw [if_neg c1, e, nI_clamp (by omega)]; exact c2] at k; exact k
theorem c_calmOnes {C D : Nat} (hN : mN h C D) (hO : mO h C D) (hH : mH h C D) (k : Q (some (.int (stF (calm h) C))) h) : dh_C G mX10_calmOnes [.ref 61] h Q := by
  have hN' := hN
  obtain ⟨eC, hC, -, hD⟩ := hN'
  refine e_X10_calmOnes ?_
  refine dh_up (P := fun i => dh_J G mX10_calmOnes 4 [some (.ref 61), some (.int (stF (calm h) i)), some (.int (nI i))] [] h Q) C ?_ ?_ 0 (by omega)
  · refine w_X10_calmOnes_4 ⟨fun _ => k, fun c => absurd (Int32.le_refl _) (by rw [eC] at c; exact c)⟩
  · intro i hi ih
    refine w_X10_calmOnes_4 ⟨fun c => ?_, fun c => ?_⟩
    · rw [eC, nI_leI (by omega) (by omega)] at c
      omega
    · refine c_isCalm hN hO hH hi ?_
      refine w_X10_calmOnes_18 ⟨fun c2 => ?_, fun c2 => ?_⟩
      · rw [bI_0] at c2
        rw [nI_add, ← stF_f c2]
        exact ih
      · rw [bI_n0] at c2
        rw [nI_add, ← stF_t c2]
        exact ih
def cold (h : dh_H) (c : Nat) : Bool := !decide (h 68 (7 + c) ≤ 0)
theorem c_coldOnes {C D : Nat} (hN : mN h C D) (k : Q (some (.int (stF (cold h) C))) h) : dh_C G mX10_coldOnes [.ref 61] h Q := by
  obtain ⟨eC, hC, -, hD⟩ := hN
  refine e_X10_coldOnes ?_
  refine dh_up (P := fun i => dh_J G mX10_coldOnes 4 [some (.ref 61), some (.int (stF (cold h) i)), some (.int (nI i))] [] h Q) C ?_ ?_ 0 (by omega)
  · refine w_X10_coldOnes_4 ⟨fun _ => k, fun c => absurd (Int32.le_refl _) (by rw [eC] at c; exact c)⟩
  · intro i hi ih
    refine w_X10_coldOnes_4 ?_
    simp (disch := omega) only [eC, nI_leI, nI_add, nI_clamp]
    refine ⟨fun c => by omega, fun c => ⟨vp_in_nI (by omega) (by omega), fun c2 => ?_, fun c2 => ?_⟩⟩
    · rw [← stF_f (f := cold h) (by simp [cold, c2])]
      exact ih
    · rw [← stF_t (f := cold h) (by simp [cold, c2])]
      exact ih
def holder (h : dh_H) (C : Nat) (x : Int32) : Int32 := laF (fun c => decide (h 68 (1 + c) = x)) C
theorem c_holderOf {C D : Nat} {x : Int32} (hN : mN h C D) (k : Q (some (.int (holder h C x))) h) : dh_C G mX10_holderOf [.ref 61, .int x] h Q := by
  obtain ⟨eC, hC, -, hD⟩ := hN
  refine e_X10_holderOf ?_
  refine dh_up (P := fun i => dh_J G mX10_holderOf 4 [some (.ref 61), some (.int x), some (.int (holder h i x)), some (.int (nI i))] [] h Q) C ?_ ?_ 0 (by omega)
  · refine w_X10_holderOf_4 ⟨fun _ => k, fun c => absurd (Int32.le_refl _) (by rw [eC] at c; exact c)⟩
  · intro i hi ih
    refine w_X10_holderOf_4 ?_
    simp (disch := omega) only [eC, nI_leI, nI_add, nI_clamp]
    refine ⟨fun c => by omega, fun c => ⟨vp_in_nI (by omega) (by omega), fun c2 => ?_, fun c2 => ?_⟩⟩
    · have : holder h (i + 1) x = holder h i x := by simp [holder, laF, c2]
      rw [← this]
      exact ih
    · have : holder h (i + 1) x = nI i := by simp [holder, laF, c2]
      rw [this] at ih
      exact ih
def rdb (h : dh_H) (d : Nat) : Bool := !decide (h 66 (4 * d + 2) ≤ h 68 (20 + d))
theorem c_readOnes {C D : Nat} (hN : mN h C D) (k : Q (some (.int (stF (rdb h) D))) h) : dh_C G mX10_readOnes [.ref 61] h Q := by
  obtain ⟨-, hC, eD, hD⟩ := hN
  refine e_X10_readOnes ?_
  refine dh_up (P := fun i => dh_J G mX10_readOnes 4 [some (.ref 61), some (.int (stF (rdb h) i)), some (.int (nI i))] [] h Q) D ?_ ?_ 0 (by omega)
  · refine w_X10_readOnes_4 ⟨fun _ => k, fun c => absurd (Int32.le_refl _) (by rw [eD] at c; exact c)⟩
  · intro i hi ih
    refine w_X10_readOnes_4 ?_
    simp (disch := omega) only [eD, nI_leI, nI_add, pk_mul, nI_clamp]
    refine ⟨fun c => by omega, fun c => ⟨vp_in_nI (by omega) (by omega), vp_in_nI (by omega) (by omega), fun c2 => ?_, fun c2 => ?_⟩⟩
    · rw [← stF_f (f := rdb h) (by simp [rdb, c2])]
      exact ih
    · rw [← stF_t (f := rdb h) (by simp [rdb, c2])]
      exact ih
end MR
