/-! the whole relation; class's cells of h beside model's cells of g -/
section RL
variable {G : dh_G} {h g h1 g1 : dh_H} {C D : Nat} {Q : Option Value → dh_H → Prop}
def DR (h g : dh_H) (s : Nat) : Prop := h 54 0 = nI s ∧ g 61 30 = nI s ∧ s < 2 ^ 31
def PX (h g : dh_H) : Prop := h 3 0 = g 61 16 ∧ (g 61 16 = 0 ∨ g 61 16 = 1) ∧ PL h g ∧ h 3 2 = g 61 18 ∧ ∃ o, o ≤ 100 ∧ g 61 18 = nI o
def IM1 (h g : dh_H) (C D a i : Nat) : Prop := h a 0 = g 72 i ∧ (g 72 i = 0 ∨ g 72 i = 1) ∧ (g 72 i = 1 → (∃ s, h a 1 = nI s ∧ g 71 i = nI s ∧ s < 2 ^ 31) ∧ WV (h (a + 1)) (fun k => g 70 (32 * i + k)) C D)
def RI (h g : dh_H) (C D T : Nat) : Prop := h 37 1 = nI T ∧ g 61 31 = nI T ∧ T ≤ 8 ∧ ∀ k, k < T → h 38 k = g 73 (3 * k) ∧ h 39 k = g 73 (3 * k + 1) ∧ h 40 k = g 73 (3 * k + 2) ∧ (∃ c, c < C ∧ g 73 (3 * k) = nI c) ∧ (∃ d, d < D ∧ g 73 (3 * k + 1) = nI d) ∧ (g 73 (3 * k + 2) = 0 ∨ g 73 (3 * k + 2) = 1)
def BO (h g : dh_H) (D E : Nat) : Prop := h 51 0 = nI E ∧ g 61 33 = nI E ∧ E ≤ 15 ∧ ∀ k, k < E → h 52 k = g 74 (2 * k) ∧ h 53 k = g 74 (2 * k + 1) ∧ ∃ d, d < D ∧ g 74 (2 * k) = nI d
def TX (h g : dh_H) (L : Nat) : Prop := h 1 1 = nI L ∧ g 61 0 = nI L ∧ L ≤ 240 ∧ (∀ k, k < L → h 2 k = g 62 k ∧ ∃ c, c ≤ 255 ∧ g 62 k = nI c) ∧ h 1 5 = g 61 7
def RR (h g : dh_H) (C D : Nat) : Prop :=
  mN g C D ∧ PR h g C D ∧ PX h g ∧ WV (wv h) (g 68) C D ∧ (∃ t b, PA h g C D t b) ∧ (∃ s, DR h g s) ∧ (IM1 h g C D 56 0 ∧ IM1 h g C D 58 1) ∧ (∃ T, RI h g C D T) ∧ (∃ E, BO h g D E) ∧ (∃ L, TX h g L)
def Inv (h : dh_H) : Prop := ∃ C D, RR h h C D
def mix (a b : dh_H) : dh_H := fun i => if i < 61 then a i else b i
theorem mix_self {h1 h : dh_H} (f : ∀ a, 61 ≤ a → h1 a = h a) : h1 = mix h1 h := by
  funext a
  unfold mix
  by_cases e : a < 61
  · rw [if_pos e]
  · rw [if_neg e]; exact f a (by omega)
theorem wv_cg (f : ∀ a, 19 ≤ a → a ≤ 24 → h1 a = h a) : wv h1 = wv h := by
  funext k
  unfold wv
  rw [f 19 (by omega) (by omega), f 20 (by omega) (by omega), f 21 (by omega) (by omega), f 22 (by omega) (by omega), f 23 (by omega) (by omega), f 24 (by omega) (by omega)]
theorem PR_cg (hP : PR h g C D) (f : ∀ a, 3 ≤ a → a ≤ 10 → h1 a = h a) (f2 : ∀ a, 65 ≤ a → a ≤ 67 → g1 a = g a) : PR h1 g1 C D := by
  unfold PR at hP ⊢
  rw [f 3 (by omega) (by omega), f 4 (by omega) (by omega), f 5 (by omega) (by omega), f 6 (by omega) (by omega), f 7 (by omega) (by omega), f 8 (by omega) (by omega), f 9 (by omega) (by omega), f 10 (by omega) (by omega), f2 65 (by omega) (by omega), f2 66 (by omega) (by omega), f2 67 (by omega) (by omega)]
  exact hP
theorem mO_of (hP : PR h g C D) : mO g C D := fun c hc => (hP.2.2.2.2.1 c hc).2.2.2.1
theorem mH_of {w : Nat → Int32} (hW : WV w (g 68) C D) : mH g C D := hW.2.2.2.1
theorem PA_cg {t b : Nat} (hA : PA h g C D t b) (f1 : h1 25 = h 25) (f2 : h1 26 = h 26) (f3 : g1 61 26 = g 61 26) (f4 : g1 69 = g 69) : PA h1 g1 C D t b := by
  unfold PA at hA ⊢
  rw [f1, f2, f3, f4]
  exact hA
theorem RR_act (R : RR h g C D) (fh : ∀ a, a < 61 → ¬ (19 ≤ a ∧ a ≤ 26) → a ≠ 54 → h1 a = h a) (fg : ∀ a, 61 < a → a ≠ 68 → a ≠ 69 → g1 a = g a) (f61 : ∀ k, k ≠ 26 → k ≠ 30 → g1 61 k = g 61 k) (W : WV (wv h1) (g1 68) C D) (A : ∃ t b, PA h1 g1 C D t b) (S : ∃ s, DR h1 g1 s) : RR h1 g1 C D := by
  obtain ⟨r1, r2, r3, -, -, -, r7, r8, r9, r10⟩ := R
  refine ⟨?_, PR_cg r2 (fun a h1 h2 => fh a (by omega) (by omega) (by omega)) (fun a h1 h2 => fg a (by omega) (by omega) (by omega)), ?_, W, A, S, ?_, ?_, ?_, ?_⟩
  · unfold mN at r1 ⊢
    rw [f61 19 (by decide) (by decide), f61 20 (by decide) (by decide)]
    exact r1
  · unfold PX PL at r3 ⊢
    rw [fh 3 (by decide) (by omega) (by decide), f61 16 (by decide) (by decide), f61 17 (by decide) (by decide), f61 18 (by decide) (by decide)]
    exact r3
  · unfold IM1 at r7 ⊢
    rw [fh 56 (by decide) (by omega) (by decide), fh 58 (by decide) (by omega) (by decide), fh (56 + 1) (by decide) (by omega) (by decide), fh (58 + 1) (by decide) (by omega) (by decide), fg 70 (by decide) (by decide) (by decide), fg 71 (by decide) (by decide) (by decide), fg 72 (by decide) (by decide) (by decide)]
    exact r7
  · unfold RI at r8 ⊢
    rw [fh 37 (by decide) (by omega) (by decide), fh 38 (by decide) (by omega) (by decide), fh 39 (by decide) (by omega) (by decide), fh 40 (by decide) (by omega) (by decide), f61 31 (by decide) (by decide), fg 73 (by decide) (by decide) (by decide)]
    exact r8
  · unfold BO at r9 ⊢
    rw [fh 51 (by decide) (by omega) (by decide), fh 52 (by decide) (by omega) (by decide), fh 53 (by decide) (by omega) (by decide), f61 33 (by decide) (by decide), fg 74 (by decide) (by decide) (by decide)]
    exact r9
  · unfold TX at r10 ⊢
    rw [fh 1 (by decide) (by omega) (by decide), fh 2 (by decide) (by omega) (by decide), f61 0 (by decide) (by decide), f61 7 (by decide) (by decide), fg 62 (by decide) (by decide) (by decide)]
    exact r10
theorem RR_mix (R : RR h g C D) : RR (mix h g) (mix h g) C D := by
  obtain ⟨r1, r2, r3, r4, r5, r6, r7, r8, r9, r10⟩ := R
  exact ⟨r1, r2, r3, r4, r5, r6, r7, r8, r9, r10⟩
theorem mix_hr (a b : dh_H) {i : Nat} (hi : 61 ≤ i) (f : Nat → Int32) : hr (mix a b) i f = mix a (hr b i f) := by
  funext q
  by_cases e : q = i
  · subst e
    simp [hr, mix, show ¬ q < 61 by omega]
  · by_cases e2 : q < 61 <;> simp [hr, mix, e, e2]
theorem mix_at (a b : dh_H) {i : Nat} (hi : 61 ≤ i) : mix a b i = b i := if_neg (by omega)
theorem mix_lo (a b : dh_H) {i : Nat} (hi : i < 61) : mix a b i = a i := if_pos hi
theorem mix_s (a b : dh_H) {i : Nat} (hi : 61 ≤ i) (k : Nat) (x : Int32) : dh_s (mix a b) i k x = mix a (dh_s b i k x) := by
  rw [dh_s_hr, mix_hr _ _ hi, mix_at _ _ hi, dh_s_hr]
theorem mix_c (a b : dh_H) {i j : Nat} (hi : 61 ≤ i) (hj : 61 ≤ j) (sp dp n : Nat) : dh_c (mix a b) i j sp dp n = mix a (dh_c b i j sp dp n) := by
  rw [dh_c_hr, mix_hr _ _ hj, mix_at _ _ hi, mix_at _ _ hj, dh_c_hr]
theorem mix_nt (a b : dh_H) (m : Nat) : nt (mix a b) m = mix a (nt b m) := by
  unfold nt
  by_cases e : m = 20
  · rw [if_pos e, if_pos e, mix_c _ _ (by decide) (by decide), mix_s _ _ (by decide), mix_c _ _ (by decide) (by decide), mix_s _ _ (by decide)]
  · rw [if_neg e, if_neg e, mix_c _ _ (by decide) (by decide), mix_s _ _ (by decide)]
theorem mix_goF (a b : dh_H) (C : Nat) : goF (mix a b) C = goF b C := rfl
theorem mix_goT (a b : dh_H) (C t : Nat) : goT (mix a b) C t = mix a (goT b C t) := by
  induction t with
  | zero => rfl
  | succ t ih =>
    show hr (goT (mix a b) C t) 68 (goF (goT (mix a b) C t) C) = mix a (hr (goT b C t) 68 (goF (goT b C t) C))
    rw [ih, mix_goF, mix_hr _ _ (by decide)]
theorem mix_gvF (a b : dh_H) (C d c : Nat) : gvF (mix a b) C d c = gvF b C d c := rfl
theorem mix_chF (a b : dh_H) (C D s : Nat) : chF (mix a b) C D s = chF b C D s := rfl
theorem mix_dfC (a b : dh_H) (C D s : Nat) : dfC (mix a b) C D s = mix a (dfC b C D s) := by
  unfold dfC
  by_cases e : 0 < C ∧ 0 < D
  · rw [if_pos e, if_pos e, mix_s _ _ (by decide), mix_chF, mix_hr _ _ (by decide)]
  · rw [if_neg e, if_neg e]
theorem mix_dfT (a b : dh_H) (C D s t : Nat) : dfT (mix a b) C D s t = mix a (dfT b C D s t) := by
  induction t with
  | zero => rfl
  | succ t ih =>
    show hr (dfC (dfT (mix a b) C D s t) C D (dfS C D s t)) 68 (goF (dfC (dfT (mix a b) C D s t) C D (dfS C D s t)) C) = mix a (hr (dfC (dfT b C D s t) C D (dfS C D s t)) 68 (goF (dfC (dfT b C D s t) C D (dfS C D s t)) C))
    rw [ih, mix_dfC, mix_goF, mix_hr _ _ (by decide)]
/-- the class's call, then the model's: one answer, and the relation again -/
def SM (G : dh_G) (X M : dh_M) (as : List Value) (h : dh_H) : Prop :=
  dh_C G X (.ref 0 :: as) h (fun v h1 => ∃ r : Int32, v = some (.int r) ∧ dh_C G M (.ref 61 :: as) h1 (fun v2 h2 => v2 = some (.int r) ∧ Inv h2))
/-- the end of a pair: nothing of the model's was changed by the class -/
theorem SM_end {M : dh_M} {as : List Value} {r : Int32} (f : ∀ a, 61 ≤ a → h1 a = h a) (k : dh_C G M (.ref 61 :: as) (mix h1 h) (fun v2 h2 => v2 = some (.int r) ∧ Inv h2)) : ∃ r' : Int32, some (Value.int r) = some (.int r') ∧ dh_C G M (.ref 61 :: as) h1 (fun v2 h2 => v2 = some (.int r') ∧ Inv h2) := by
  refine ⟨r, rfl, ?_⟩
  rw [mix_self f]
  exact k
end RL
