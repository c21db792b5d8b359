/-! the text: how it is read, as pure functions; the class's reader -/
def skN (t : Nat → Nat) : Nat → Nat → Nat
  | 0, i => i
  | n + 1, i => if t i = 32 then skN t n (i + 1) else i
def sk (t : Nat → Nat) (L i : Nat) : Nat := skN t (L - i) i
theorem skN_ge (t : Nat → Nat) : ∀ n i, i ≤ skN t n i ∧ skN t n i ≤ i + n
  | 0, i => ⟨Nat.le_refl _, Nat.le_refl _⟩
  | n + 1, i => by
    unfold skN
    have := skN_ge t n (i + 1)
    split <;> omega
theorem sk_ge (t : Nat → Nat) {L i : Nat} (hi : i ≤ L) : i ≤ sk t L i ∧ sk t L i ≤ L := by
  have := skN_ge t (L - i) i
  unfold sk
  omega
theorem sk_b {t : Nat → Nat} {L i : Nat} (hi : i < L) (e : t i = 32) : sk t L i = sk t L (i + 1) := by
  unfold sk
  rw [show L - i = (L - (i + 1)) + 1 by omega]
  show (if t i = 32 then skN t (L - (i + 1)) (i + 1) else i) = _
  rw [if_pos e]
theorem sk_n {t : Nat → Nat} {L i : Nat} (hi : i < L) (e : ¬ t i = 32) : sk t L i = i := by
  unfold sk
  rw [show L - i = (L - (i + 1)) + 1 by omega]
  show (if t i = 32 then skN t (L - (i + 1)) (i + 1) else i) = _
  rw [if_neg e]
theorem sk_e {t : Nat → Nat} {L i : Nat} (hi : L ≤ i) : sk t L i = i := by
  unfold sk
  rw [show L - i = 0 by omega]
  rfl
theorem skN_sk (t : Nat → Nat) : ∀ n i, skN t n i < i + n → ¬ t (skN t n i) = 32
  | 0, i => fun h => by unfold skN at h; omega
  | n + 1, i => by
    unfold skN
    intro h
    by_cases e : t i = 32
    · rw [if_pos e] at h ⊢
      exact skN_sk t n (i + 1) (by omega)
    · rw [if_neg e]
      exact e
theorem sk_sk (t : Nat → Nat) {L i : Nat} (hi : i ≤ L) : sk t L (sk t L i) = sk t L i := by
  have h1 := sk_ge t hi
  by_cases e : sk t L i < L
  · refine sk_n e ?_
    have := skN_sk t (L - i) i
    unfold sk at e ⊢
    exact this (by omega)
  · exact sk_e (by omega)
def fg (x : Nat) : Bool := decide (48 ≤ x) && decide (x ≤ 57)
def nmV (t : Nat → Nat) : Nat → Nat → Nat → Nat → Nat × Nat × Nat
  | 0, p, v, f => (v, f, p)
  | n + 1, p, v, f => if fg (t p) then nmV t n (p + 1) (if f < 3 then 10 * v + t p - 48 else v) (f + 1) else (v, f, p)
def nb3 (f v : Nat) : Prop := (f = 0 ∧ v = 0) ∨ (f = 1 ∧ v ≤ 9) ∨ (f = 2 ∧ v ≤ 99) ∨ (3 ≤ f ∧ v ≤ 999)
theorem nb3_s {f v x : Nat} (h : nb3 f v) (hx : fg x = true) : nb3 (f + 1) (if f < 3 then 10 * v + x - 48 else v) := by
  simp only [fg, Bool.and_eq_true, decide_eq_true_eq] at hx
  unfold nb3 at h ⊢
  split <;> omega
theorem nmV_ok (t : Nat → Nat) : ∀ n p v f, nb3 f v → nb3 (nmV t n p v f).2.1 (nmV t n p v f).1 ∧ p ≤ (nmV t n p v f).2.2 ∧ (nmV t n p v f).2.2 ≤ p + n ∧ (nmV t n p v f).2.1 ≤ f + n
  | 0, p, v, f, h => ⟨h, Nat.le_refl _, Nat.le_refl _, Nat.le_refl _⟩
  | n + 1, p, v, f, h => by
    unfold nmV
    by_cases e : fg (t p) = true
    · rw [if_pos e]
      have := nmV_ok t n (p + 1) _ _ (nb3_s h e)
      exact ⟨this.1, by omega, by omega, by omega⟩
    · rw [if_neg e]
      exact ⟨h, Nat.le_refl _, Nat.le_add_right _ _, Nat.le_add_right _ _⟩
/-- a number at p -/
def nm (t : Nat → Nat) (L p : Nat) : Nat × Nat × Nat := nmV t (L - p) p 0 0
/-- a number of least .. most, from i on: its value and where it ends; or the fault -/
def NR (t : Nat → Nat) (L i least most : Nat) : Except (Nat × Nat) (Nat × Nat) :=
  if sk t L i < L ∧ fg (t (sk t L i)) = true then
    (if 3 < (nm t L (sk t L i)).2.1 ∨ (nm t L (sk t L i)).1 < least ∨ most < (nm t L (sk t L i)).1 then .error (2, sk t L i) else .ok ((nm t L (sk t L i)).1, (nm t L (sk t L i)).2.2))
  else .error (1, sk t L i)
/-- the semicolon -/
def SC (t : Nat → Nat) (L i : Nat) : Except (Nat × Nat) Nat := if sk t L i < L ∧ t (sk t L i) = 59 then .ok (sk t L i + 1) else .error (1, sk t L i)
theorem NR_pos {t : Nat → Nat} {L i a b v p : Nat} (hi : i ≤ L) (h : NR t L i a b = .ok (v, p)) : i ≤ p ∧ p ≤ L ∧ a ≤ v ∧ v ≤ b := by
  unfold NR at h
  have h1 := sk_ge t hi
  have h2 := nmV_ok t (L - sk t L i) (sk t L i) 0 0 (Or.inl ⟨rfl, rfl⟩)
  by_cases q : sk t L i < L ∧ fg (t (sk t L i)) = true
  · rw [if_pos q] at h
    by_cases q2 : 3 < (nm t L (sk t L i)).2.1 ∨ (nm t L (sk t L i)).1 < a ∨ b < (nm t L (sk t L i)).1
    · rw [if_pos q2] at h
      cases h
    · rw [if_neg q2] at h
      have e := Except.ok.inj h
      have e1 : (nm t L (sk t L i)).1 = v := congrArg Prod.fst e
      have e2 : (nm t L (sk t L i)).2.2 = p := congrArg Prod.snd e
      unfold nm at e1 e2 q2
      omega
  · rw [if_neg q] at h
    cases h
theorem SC_pos {t : Nat → Nat} {L i p : Nat} (hi : i ≤ L) (h : SC t L i = .ok p) : i < p ∧ p ≤ L := by
  unfold SC at h
  have h1 := sk_ge t hi
  by_cases q : sk t L i < L ∧ t (sk t L i) = 59
  · rw [if_pos q] at h
    have e := Except.ok.inj h
    omega
  · rw [if_neg q] at h
    cases h
section RC
variable {G : dh_G} {h : dh_H} {Q : Option Value → dh_H → Prop} {t : Nat → Nat} {L : Nat}
/-- the class's text -/
def CT (t : Nat → Nat) (L : Nat) (h : dh_H) : Prop := h 1 1 = nI L ∧ L ≤ 240 ∧ ∀ k, k < L → h 2 k = nI (t k) ∧ t k ≤ 255
/-- nothing but the reader's own numbers has changed -/
def fR (h h1 : dh_H) : Prop := (∀ a, a ≠ 1 → h1 a = h a) ∧ ∀ k, k = 1 ∨ k = 0 → h1 1 k = h 1 k
theorem fR_rf (h : dh_H) : fR h h := ⟨fun _ _ => rfl, fun _ _ => rfl⟩
theorem fR_s {h h1 : dh_H} (f : fR h h1) {k : Nat} {x : Int32} (hk : 2 ≤ k) : fR h (dh_s h1 1 k x) := ⟨fun a ha => by rw [dh_s_n ha]; exact f.1 a ha, fun j hj => by rw [dh_s_nk (by omega)]; exact f.2 j hj⟩
theorem fR_tr {h h1 h2 : dh_H} (f : fR h h1) (f2 : fR h1 h2) : fR h h2 := ⟨fun a ha => (f2.1 a ha).trans (f.1 a ha), fun k hk => (f2.2 k hk).trans (f.2 k hk)⟩
theorem CT_fR {h h1 : dh_H} (c : CT t L h) (f : fR h h1) : CT t L h1 := by
  unfold CT at c ⊢
  rw [f.2 1 (Or.inl rfl), f.1 2 (by decide)]
  exact c
theorem dh_s_self (h : dh_H) (i k : Nat) : dh_s h i k (h i k) = h := by
  rw [dh_s_hr, upd_same, hr_id]
theorem dh_s_s (h : dh_H) (i k : Nat) (x y : Int32) : dh_s (dh_s h i k x) i k y = dh_s h i k y := by
  funext a
  by_cases e : a = i
  · subst e
    funext j
    by_cases e2 : j = k
    · subst e2
      rw [dh_s_eq, dh_s_eq]
    · rw [dh_s_nk e2, dh_s_nk e2, dh_s_nk e2]
  · rw [dh_s_n e, dh_s_n e, dh_s_n e]
theorem d_skipBlanks {i : Nat} (c : CT t L h) (hi : i ≤ L) (e : h 1 2 = nI i) (k : Q none (dh_s h 1 2 (nI (sk t L i)))) : dh_C G mX6_skipBlanks [.ref 1] h Q := by
  have hL := c.2.1
  have key := dh_up (P := fun i => ∀ hh, fR h hh → hh 1 2 = nI i → Q none (dh_s hh 1 2 (nI (sk t L i))) → dh_J G mX6_skipBlanks 0 [some (.ref 1)] [] hh Q) L ?_ ?_ i hi h (fR_rf h) e k
  · exact dh_C_of [some (.ref 1)] (by decide) (Nat.le_of_ble_eq_true rfl) rfl key
  · intro hh f e k
    have c2 := CT_fR c f
    have k : Q none hh := by
      rw [sk_e (Nat.le_refl L), ← e, dh_s_self] at k
      exact k
    refine w_X6_skipBlanks_0 ⟨fun _ => k, fun _ => ⟨fun _ => k, fun q => ?_⟩⟩
    rw [c2.1, e] at q
    exact absurd (Int32.le_refl _) q
  · intro i hi ih hh f e k
    have c2 := CT_fR c f
    obtain ⟨ct, -⟩ := c2.2.2 i hi
    refine w_X6_skipBlanks_0 ?_
    rw [e, c2.1]
    simp (disch := omega) only [nI_clamp, nI_leI, nI_add, ct]
    refine ⟨fun q => absurd q (nI_pos (by omega)), fun _ => ⟨fun q => by omega, fun _ => ⟨fun q => by omega, fun _ => ⟨vp_in_nI (by omega) (by omega), fun q => ?_, fun q => ?_⟩⟩⟩⟩
    · have q2 : ¬ t i = 32 := fun z => q (by rw [z])
      rw [sk_n hi q2, ← e, dh_s_self] at k
      exact k
    · have q2 : t i = 32 := by
        rw [nI_eq (by have := (c2.2.2 i hi).2; omega) (by decide)] at q
        exact q
      refine ih _ (fR_s f (by decide)) (dh_s_eq _ _ _ _) ?_
      rw [dh_s_s, ← sk_b hi q2]
      exact k
def lt (t : Nat → Nat) (L i : Nat) : Int32 := if i < L then nI (t i) else -1
theorem d_letterHere {i : Nat} (c : CT t L h) (hi : i ≤ L) (e : h 1 2 = nI i) (k : Q (some (.int (lt t L i))) h) : dh_C G mX6_letterHere [.ref 1] h Q := by
  have hL := c.2.1
  refine e_X6_letterHere ?_
  rw [e, c.1]
  simp (disch := omega) only [nI_clamp, nI_leI]
  unfold lt at k
  by_cases q : i < L
  · rw [if_pos q, ← (c.2.2 i q).1] at k
    exact ⟨fun q => absurd q (nI_pos (by omega)), fun _ => ⟨fun z => by omega, fun _ => ⟨fun z => by omega, fun _ => ⟨vp_in_nI (by omega) (by omega), k⟩⟩⟩⟩
  · rw [if_neg q] at k
    exact ⟨fun _ => k, fun _ => ⟨fun _ => k, fun z => by omega⟩⟩
theorem d_isFigure {x : Int32} (k : Q (some (.int (bI (inB x (nI 48) (nI 57))))) h) : dh_C G mX6_isFigure [.int x] h Q := by
  refine e_X6_isFigure ⟨fun c => ?_, fun c => ⟨fun c2 => ?_, fun c2 => ?_⟩⟩
  · simpa [inB, c, bI] using k
  · simpa [inB, c, c2, bI] using k
  · simpa [inB, c, c2, bI] using k
theorem fig_lt (hL : ∀ k, k < L → t k ≤ 255) (i : Nat) : inB (lt t L i) (nI 48) (nI 57) = (decide (i < L) && fg (t i)) := by
  unfold lt
  by_cases q : i < L
  · rw [if_pos q]
    have := hL i q
    unfold inB fg
    have e1 : decide (nI (t i) < nI 48) = !decide (48 ≤ t i) := by
      by_cases z : 48 ≤ t i
      · have : ¬ nI (t i) < nI 48 := by rw [nI_ltI (by omega) (by decide)]; omega
        simp [z, this]
      · have : nI (t i) < nI 48 := by rw [nI_ltI (by omega) (by decide)]; omega
        simp [z, this]
    have e2 : decide (nI 57 < nI (t i)) = !decide (t i ≤ 57) := by
      by_cases z : t i ≤ 57
      · have : ¬ nI 57 < nI (t i) := by rw [nI_ltI (by decide) (by omega)]; omega
        simp [z, this]
      · have : nI 57 < nI (t i) := by rw [nI_ltI (by decide) (by omega)]; omega
        simp [z, this]
    rw [e1, e2]
    simp [q]
  · rw [if_neg q]
    simp [q]
    decide
theorem d_fail {x w : Int32} (e : h 1 4 = 0) (k : Q none (dh_s (dh_s h 1 4 x) 1 5 w)) : dh_C G mX6_fail [.ref 1, .int x, .int w] h Q := e_X6_fail ⟨fun q => absurd e q, fun _ => k⟩
/-- the reader in order, at i -/
def ST (L : Nat) (h : dh_H) (i : Nat) : Prop := h 1 2 = nI i ∧ i ≤ L ∧ h 1 4 = 0
/-- the reader behind its first fault -/
def FT (L : Nat) (h : dh_H) (k a : Nat) : Prop := (∃ i, h 1 2 = nI i ∧ i ≤ L) ∧ h 1 4 = nI k ∧ 0 < k ∧ k ≤ 4 ∧ h 1 5 = nI a
theorem d_readNumber_f {x1 x2 : Int32} (e : ¬ h 1 4 = 0) (k : Q (some (.int (nI 0))) h) : dh_C G mX6_readNumber [.ref 1, .int x1, .int x2] h Q := e_X6_readNumber ⟨fun q => absurd q e, fun _ => k⟩
theorem d_readSemicolon_f (e : ¬ h 1 4 = 0) (k : Q none h) : dh_C G mX6_readSemicolon [.ref 1] h Q := e_X6_readSemicolon ⟨fun q => absurd q e, fun _ => k⟩
theorem FT_4 {k a : Nat} (f : FT L h k a) : ¬ h 1 4 = 0 := by rw [f.2.1]; exact nI_ne0 f.2.2.1 (by have := f.2.2.2.1; omega)
theorem d_readNumber {i least most : Nat} (c : CT t L h) (s : ST L h i) (hlm : least ≤ most) (hm : most ≤ 999)
    (kE : ∀ k a v h1, NR t L i least most = .error (k, a) → fR h h1 → FT L h1 k a → Q (some (.int v)) h1)
    (kO : ∀ v p h1, NR t L i least most = .ok (v, p) → fR h h1 → ST L h1 p → h1 1 3 = nI (sk t L i) → h1 1 5 = h 1 5 → Q (some (.int (nI v))) h1) : dh_C G mX6_readNumber [.ref 1, .int (nI least), .int (nI most)] h Q := by
  obtain ⟨s1, s2, s3⟩ := s
  have hL := c.2.1
  have hsk := sk_ge t s2
  refine e_X6_readNumber ⟨fun _ => d_skipBlanks c s2 s1 ?_, fun q => absurd s3 q⟩
  generalize hp : sk t L i = p at hsk kO ⊢
  have c1 : CT t L (dh_s h 1 2 (nI p)) := CT_fR c (fR_s (fR_rf h) (by decide))
  refine w_X6_readNumber_13 (d_letterHere c1 hsk.2 (dh_s_eq _ _ _ _) (w_X6_readNumber_17 (d_isFigure ?_)))
  rw [fig_lt (fun k hk => (c.2.2 k hk).2)]
  have e14 : dh_s h 1 2 (nI p) 1 4 = 0 := s3
  refine w_X6_readNumber_20 ⟨fun q => ?_, fun q => ?_⟩
  · rw [bI_n0] at q
    simp only [Bool.and_eq_true, decide_eq_true_eq] at q
    rw [dh_s_eq]
    have hNR : NR t L i least most = if 3 < (nm t L p).2.1 ∨ (nm t L p).1 < least ∨ most < (nm t L p).1 then .error (2, p) else .ok ((nm t L p).1, (nm t L p).2.2) := by
      unfold NR
      rw [hp, if_pos q]
    -- the end of the loop
    have fin : ∀ (hh : dh_H) (v f p' : Nat), fR h hh → ST L hh p' → hh 1 3 = nI p → hh 1 5 = h 1 5 → nm t L p = (v, f, p') → nb3 f v → f ≤ 240 →
        ((nI 3 < nI f) → dh_C G mX6_fail [.ref 1, .int (nI 2), .int (hh 1 3)] hh (fun v0 h1 => dh_J G mX6_readNumber 131 [none, none, none, some (.int (nI v)), none, none] (v0.toList ++ []) h1 Q)) ∧ ((¬ nI 3 < nI f) → ((nI v < nI least) → dh_C G mX6_fail [.ref 1, .int (nI 2), .int (hh 1 3)] hh (fun v0 h1 => dh_J G mX6_readNumber 131 [none, none, none, some (.int (nI v)), none, none] (v0.toList ++ []) h1 Q)) ∧ ((¬ nI v < nI least) → ((nI v ≤ nI most) → dh_J G mX6_readNumber 131 [none, none, none, some (.int (nI v)), none, none] [] hh Q) ∧ ((¬ nI v ≤ nI most) → dh_C G mX6_fail [.ref 1, .int (nI 2), .int (hh 1 3)] hh (fun v0 h1 => dh_J G mX6_readNumber 131 [none, none, none, some (.int (nI v)), none, none] (v0.toList ++ []) h1 Q)))) := by
      intro hh v f p' fr st e3 e5 en hb hf
      have hv : v ≤ 999 := by unfold nb3 at hb; omega
      rw [en] at hNR
      dsimp only at hNR
      have bad : (3 < f ∨ v < least ∨ most < v) → dh_C G mX6_fail [.ref 1, .int (nI 2), .int (hh 1 3)] hh (fun v0 h1 => dh_J G mX6_readNumber 131 [none, none, none, some (.int (nI v)), none, none] (v0.toList ++ []) h1 Q) := by
        intro hbad
        rw [e3]
        refine d_fail st.2.2 (w_X6_readNumber_131 (kE 2 p _ _ (by rw [hNR, if_pos hbad]) (fR_s (fR_s fr (by decide)) (by decide)) ⟨⟨p', ?_, st.2.1⟩, ?_, by decide, by decide, dh_s_eq _ _ _ _⟩))
        · rw [dh_s_nk (by decide), dh_s_nk (by decide)]
          exact st.1
        · rw [dh_s_nk (by decide), dh_s_eq]
      rw [nI_ltI (by decide) (by omega), nI_ltI (by omega) (by omega), nI_leI (by omega) (by omega)]
      refine ⟨fun z => bad (Or.inl z), fun z => ⟨fun z2 => bad (Or.inr (Or.inl z2)), fun z2 => ⟨fun z3 => w_X6_readNumber_131 (kO v p' hh (by rw [hNR, if_neg (by omega)]) fr st e3 e5), fun z3 => bad (Or.inr (Or.inr (by omega)))⟩⟩⟩
    -- the loop
    refine dh_up (P := fun j => ∀ hh v, p + j ≤ L → fR h hh → ST L hh (p + j) → hh 1 3 = nI p → hh 1 5 = h 1 5 → nm t L p = nmV t (L - (p + j)) (p + j) v j → nb3 j v → dh_J G mX6_readNumber 50 [some (.ref 1), some (.int (nI least)), some (.int (nI most)), some (.int (nI v)), some (.int (nI j)), some (.int (nI j))] [] hh Q) 240 ?_ ?_ 0 (by omega) _ 0 (by omega) (fR_s (fR_s (fR_rf h) (by decide)) (by decide)) ⟨rfl, hsk.2, s3⟩ rfl rfl rfl (Or.inl ⟨rfl, rfl⟩)
    · intro hh v hpj fr st e3 e5 en hb
      refine w_X6_readNumber_50 ⟨fun _ => ?_, fun z => absurd (Int32.le_refl _) z⟩
      refine fin hh v 240 (p + 240) fr st e3 e5 ?_ hb (by omega)
      rw [en, show L - (p + 240) = 0 by omega]
      rfl
    · intro j hj ih hh v hpj fr st e3 e5 en hb
      have c2 := CT_fR c fr
      have hv : v ≤ 999 := by unfold nb3 at hb; omega
      refine w_X6_readNumber_50 ⟨fun z => ?_, fun _ => d_letterHere c2 st.2.1 st.1 (w_X6_readNumber_62 (d_isFigure ?_))⟩
      · rw [nI_leI (by decide) (by omega)] at z
        omega
      · rw [fig_lt (fun k hk => (c.2.2 k hk).2)]
        refine w_X6_readNumber_65 ⟨fun z => ?_, fun z => ?_⟩
        · rw [bI_0] at z
          refine fin hh v j (p + j) fr st e3 e5 ?_ hb (by omega)
          rw [en]
          by_cases q2 : p + j < L
          · rw [show L - (p + j) = (L - (p + j) - 1) + 1 by omega]
            show (if fg (t (p + j)) then _ else _) = _
            have : fg (t (p + j)) = false := by
              have z2 := z
              simp only [q2, decide_true, Bool.true_and] at z2
              exact z2
            rw [this, if_neg (by decide)]
          · rw [show L - (p + j) = 0 by omega]
            rfl
        · rw [bI_n0] at z
          simp only [Bool.and_eq_true, decide_eq_true_eq] at z
          have en2 : nm t L p = nmV t (L - (p + (j + 1))) (p + (j + 1)) (if j < 3 then 10 * v + t (p + j) - 48 else v) (j + 1) := by
            rw [en, show L - (p + j) = (L - (p + (j + 1))) + 1 by omega]
            show (if fg (t (p + j)) then nmV t (L - (p + (j + 1))) (p + j + 1) (if j < 3 then 10 * v + t (p + j) - 48 else v) (j + 1) else _) = _
            rw [if_pos z.2]
            rfl
          have hb2 := nb3_s hb z.2
          have ht := (c.2.2 (p + j) z.1).2
          have hfg : 48 ≤ t (p + j) := by
            have := z.2
            simp only [fg, Bool.and_eq_true, decide_eq_true_eq] at this
            exact this.1
          have e12 : hh 1 2 + nI 1 = nI (p + (j + 1)) := by rw [st.1, nI_add]; rfl
          have go : ∀ v', v' = (if j < 3 then 10 * v + t (p + j) - 48 else v) → dh_J G mX6_readNumber 50 [some (.ref 1), some (.int (nI least)), some (.int (nI most)), some (.int (nI v')), some (.int (nI (j + 1))), some (.int (nI (j + 1)))] [] (dh_s hh 1 2 (nI (p + (j + 1)))) Q := by
            intro v' ev
            subst ev
            exact ih _ _ (by omega) (fR_s fr (by decide)) ⟨dh_s_eq _ _ _ _, by omega, st.2.2⟩ e3 e5 en2 hb2
          rw [e12, nI_add, nI_ltI (by decide) (by omega)]
          refine ⟨fun z2 => go v (by rw [if_neg (by omega)]), fun z2 => d_letterHere c2 st.2.1 st.1 (w_X6_readNumber_85 ?_)⟩
          unfold lt
          rw [if_pos z.1, e12, pk_mul, nI_add, nI_add, pk_sub (by omega)]
          exact go _ (by rw [if_pos (by omega)])
  · rw [bI_0] at q
    have hNR : NR t L i least most = .error (1, p) := by
      unfold NR
      rw [hp, if_neg]
      intro z
      simp [z.1, z.2] at q
    rw [dh_s_eq]
    refine d_fail e14 (w_X6_readNumber_32 (kE 1 p _ _ hNR (fR_s (fR_s (fR_s (fR_rf h) (by decide)) (by decide)) (by decide)) ⟨⟨p, ?_, hsk.2⟩, ?_, by decide, by decide, dh_s_eq _ _ _ _⟩))
    · rw [dh_s_nk (by decide), dh_s_nk (by decide), dh_s_eq]
    · rw [dh_s_nk (by decide), dh_s_eq]
theorem d_readSemicolon {i : Nat} (c : CT t L h) (s : ST L h i)
    (kE : ∀ k a h1, SC t L i = .error (k, a) → fR h h1 → FT L h1 k a → Q none h1)
    (kO : ∀ p h1, SC t L i = .ok p → fR h h1 → ST L h1 p → h1 1 5 = h 1 5 → Q none h1) : dh_C G mX6_readSemicolon [.ref 1] h Q := by
  obtain ⟨s1, s2, s3⟩ := s
  have hL := c.2.1
  have hsk := sk_ge t s2
  refine e_X6_readSemicolon ⟨fun _ => d_skipBlanks c s2 s1 ?_, fun q => absurd s3 q⟩
  generalize hp : sk t L i = p at hsk ⊢
  have c1 : CT t L (dh_s h 1 2 (nI p)) := CT_fR c (fR_s (fR_rf h) (by decide))
  refine w_X6_readSemicolon_12 (d_letterHere c1 hsk.2 (dh_s_eq _ _ _ _) (w_X6_readSemicolon_16 ⟨fun q => ?_, fun q => ?_⟩))
  · unfold lt at q
    have q1 : p < L := by
      by_cases z : p < L
      · exact z
      · rw [if_neg z] at q
        exact absurd q (by decide)
    rw [if_pos q1, nI_eq (by have := (c.2.2 p q1).2; omega) (by decide)] at q
    rw [dh_s_eq, nI_add]
    refine kO (p + 1) _ (by unfold SC; rw [hp, if_pos ⟨q1, q⟩]) (fR_s (fR_s (fR_rf h) (by decide)) (by decide)) ⟨dh_s_eq _ _ _ _, by omega, s3⟩ rfl
  · rw [dh_s_eq]
    refine d_fail s3 (w_X6_readSemicolon_30 (kE 1 p _ ?_ (fR_s (fR_s (fR_s (fR_rf h) (by decide)) (by decide)) (by decide)) ⟨⟨p, ?_, hsk.2⟩, ?_, by decide, by decide, dh_s_eq _ _ _ _⟩))
    · unfold SC
      rw [hp, if_neg]
      intro z
      apply q
      unfold lt
      rw [if_pos z.1, z.2]
    · rw [dh_s_nk (by decide), dh_s_nk (by decide), dh_s_eq]
    · rw [dh_s_nk (by decide), dh_s_eq]
end RC
