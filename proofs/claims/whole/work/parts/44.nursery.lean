/-! the pair nursery -/
section NU
variable {G : dh_G} {h : dh_H} {Q : Option Value → dh_H → Prop} {t : Nat → Nat} {L : Nat} {cs : chL} {ds : dmL} {hd lo od : Nat}
/-- what the model holds of a new nursery -/
def NM (h h1 : dh_H) (r : Nat × Nat × Nat × chL × dmL) : Prop :=
  (∀ a, a < 61 → h1 a = h a) ∧ h1 61 0 = nI 0 ∧ h1 61 7 = -1 ∧ h1 61 16 = nI r.1 ∧ h1 61 17 = nI r.2.1 ∧ h1 61 18 = nI r.2.2.1 ∧ h1 61 19 = nI r.2.2.2.1.length ∧ h1 61 20 = nI r.2.2.2.2.length ∧ h1 61 26 = nI 0 ∧ h1 61 31 = nI 0 ∧ h1 61 33 = nI 0 ∧ h1 61 30 = h 61 30 ∧
  (∀ c x, r.2.2.2.1[c]? = some x → h1 65 (2 * c) = nI x.1 ∧ h1 65 (2 * c + 1) = nI x.2) ∧
  (∀ d x, r.2.2.2.2[d]? = some x → h1 66 (4 * d) = nI x.1 ∧ h1 66 (4 * d + 1) = nI x.2.1 ∧ h1 66 (4 * d + 2) = nI x.2.2.1 ∧ h1 66 (4 * d + 3) = nI x.2.2.2) ∧
  (∀ c, c < 6 → h1 67 c = ownI r.2.2.2.2 c) ∧
  (∀ j, j < 32 → h1 68 j = if 1 ≤ j ∧ j ≤ 6 then -1 else nI 0) ∧ h1 72 0 = nI 0 ∧ h1 72 1 = nI 0
theorem laF_s (f : Nat → Bool) (d : Nat) : laF f (d + 1) = if f d then nI d else laF f d := rfl
theorem c_nursery (c : MT t L h)
    (kE : ∀ k a h1, PT t L = .error (k, a) → (∀ a, a ≠ 61 → a ≠ 63 → a ≠ 64 → h1 a = h a) → (∀ j, 14 ≤ j → h1 61 j = h 61 j) → h1 61 0 = nI 0 → h1 61 7 = nI a → 0 < k → k ≤ 4 → Q (some (.int ((-10 : Int32) - nI k))) h1)
    (kO : ∀ r h1, PT t L = .ok r → NM h h1 r → Q (some (.int (nI r.2.2.2.1.length))) h1) : dh_C G mX10_nursery [.ref 61] h Q := by
  refine e_X10_nursery (c_isRead c (fun k a h1 e f F => w_X10_nursery_4 ⟨fun z => absurd rfl z, fun _ => ?_⟩) (fun r h1 e f M => w_X10_nursery_4 ⟨fun _ => ⟨?_, ?_⟩, fun z => absurd z (by decide)⟩))
  · rw [F.1]
    exact kE k a _ e (fun b h1 h2 h3 => by rw [dh_s_n h1]; exact f.1 b h1 h2 h3) (fun j hj => by rw [dh_s_nk (by omega)]; exact f.2 j (by omega)) (dh_s_eq _ _ _ _) (by rw [dh_s_nk (by decide)]; exact F.2.1) F.2.2.1 F.2.2.2
  · rw [M.1]
    rcases (PT_ok e).2.1 with z | z <;> rw [z]
    · exact Or.inl rfl
    · exact Or.inr rfl
  · obtain ⟨hd, lo, od, cs, ds⟩ := r
    dsimp only at M
    have hV : VD cs ds := (PT_ok e).1
    have hv1 := hV.1
    have hv2 := hV.2.1
    obtain ⟨m1, m2, m3, m4, m5, m6, m7⟩ := M
    rw [m1, m2, m3, m4, m5]
    refine c_bring_63_65 (by decide) (by decide) (w_X10_nursery_82 (c_bring_64_66 (by decide) (by decide) (w_X10_nursery_97 ?_)))
    generalize eh2 : dh_c (dh_c (dh_s (dh_s (dh_s (dh_s (dh_s (dh_s (dh_s h1 61 0 (nI 0)) 61 7 (-1)) 61 16 (nI hd)) 61 17 (nI lo)) 61 18 (nI od)) 61 19 (nI cs.length)) 61 20 (nI ds.length)) 63 65 0 0 12) 64 66 0 0 24 = h2
    have f2 : ∀ a, a < 61 → h2 a = h a := by
      intro a ha
      subst eh2
      rw [dh_c_n (by omega), dh_c_n (by omega), dh_s_n (by omega), dh_s_n (by omega), dh_s_n (by omega), dh_s_n (by omega), dh_s_n (by omega), dh_s_n (by omega), dh_s_n (by omega)]
      exact f.1 a (by omega) (by omega) (by omega)
    have g0 : h2 61 0 = nI 0 := by subst eh2; rfl
    have g7 : h2 61 7 = -1 := by subst eh2; rfl
    have g16 : h2 61 16 = nI hd := by subst eh2; rfl
    have g17 : h2 61 17 = nI lo := by subst eh2; rfl
    have g18 : h2 61 18 = nI od := by subst eh2; rfl
    have g19 : h2 61 19 = nI cs.length := by subst eh2; rfl
    have g20 : h2 61 20 = nI ds.length := by subst eh2; rfl
    have g30 : h2 61 30 = h 61 30 := by subst eh2; exact f.2 30 (by omega)
    have g65 : ∀ c x, cs[c]? = some x → h2 65 (2 * c) = nI x.1 ∧ h2 65 (2 * c + 1) = nI x.2 := by
      intro c x hx
      have hc := (List.getElem?_eq_some_iff.mp hx).1
      have := m6 c x hx
      subst eh2
      rw [dh_c_n (by decide), dh_c_i, pk_cpy_in (by omega) (by omega), pk_cpy_in (by omega) (by omega), show 0 + (2 * c - 0) = 2 * c by omega, show 0 + (2 * c + 1 - 0) = 2 * c + 1 by omega]
      exact this
    have g66 : ∀ d x, ds[d]? = some x → h2 66 (4 * d) = nI x.1 ∧ h2 66 (4 * d + 1) = nI x.2.1 ∧ h2 66 (4 * d + 2) = nI x.2.2.1 ∧ h2 66 (4 * d + 3) = nI x.2.2.2 := by
      intro d x hx
      have hc := (List.getElem?_eq_some_iff.mp hx).1
      have := m7 d x hx
      subst eh2
      rw [dh_c_i, pk_cpy_in (by omega) (by omega), pk_cpy_in (by omega) (by omega), pk_cpy_in (by omega) (by omega), pk_cpy_in (by omega) (by omega), show 0 + (4 * d - 0) = 4 * d by omega, show 0 + (4 * d + 1 - 0) = 4 * d + 1 by omega, show 0 + (4 * d + 2 - 0) = 4 * d + 2 by omega, show 0 + (4 * d + 3 - 0) = 4 * d + 3 by omega]
      exact this
    clear eh2
    -- the owners
    have own : ∀ hh, (∀ a, a ≠ 67 → a ≠ 68 → hh a = h2 a) → (∀ j, j < 32 → hh 68 j = if 1 ≤ j ∧ j ≤ 6 then -1 else nI 0) → (∀ c, c < 6 → hh 67 c = -1) → dh_J G mX10_nursery 150 [some (.ref 61), none, some (.int (nI 0))] [] hh Q := by
      intro hh fh e68 e67
      refine dh_up (P := fun d => ∀ hh, (∀ a, a ≠ 67 → a ≠ 68 → hh a = h2 a) → (∀ j, j < 32 → hh 68 j = if 1 ≤ j ∧ j ≤ 6 then -1 else nI 0) → (∀ c, c < 6 → hh 67 c = laF (fun d => decide (ow ds d = c)) d) → dh_J G mX10_nursery 150 [some (.ref 61), none, some (.int (nI d))] [] hh Q) ds.length ?_ ?_ 0 (by omega) hh fh e68 e67
      · intro hh fh e68 e67
        refine w_X10_nursery_150 ?_
        rw [fh 61 (by decide) (by decide), g20, g19]
        refine ⟨fun _ => ⟨vp_in_nI (by decide) (by decide), vp_in_nI (by decide) (by decide), kO _ _ e ⟨fun a ha => ?_, ?_, ?_, ?_, ?_, ?_, ?_, ?_, ?_, ?_, ?_, ?_, ?_, ?_, ?_, ?_, ?_, ?_⟩⟩, fun z => absurd (Int32.le_refl _) z⟩
        · rw [dh_s_n (by omega), dh_s_n (by omega), dh_s_n (by omega), dh_s_n (by omega), dh_s_n (by omega), fh a (by omega) (by omega)]
          exact f2 a ha
        · show hh 61 0 = _
          rw [fh 61 (by decide) (by decide)]; exact g0
        · show hh 61 7 = _
          rw [fh 61 (by decide) (by decide)]; exact g7
        · show hh 61 16 = _
          rw [fh 61 (by decide) (by decide)]; exact g16
        · show hh 61 17 = _
          rw [fh 61 (by decide) (by decide)]; exact g17
        · show hh 61 18 = _
          rw [fh 61 (by decide) (by decide)]; exact g18
        · show hh 61 19 = _
          rw [fh 61 (by decide) (by decide)]; exact g19
        · show hh 61 20 = _
          rw [fh 61 (by decide) (by decide)]; exact g20
        · rfl
        · rfl
        · rfl
        · show hh 61 30 = _
          rw [fh 61 (by decide) (by decide)]; exact g30
        · show ∀ c x, cs[c]? = some x → hh 65 (2 * c) = nI x.1 ∧ hh 65 (2 * c + 1) = nI x.2
          rw [fh 65 (by decide) (by decide)]; exact g65
        · show ∀ d x, ds[d]? = some x → hh 66 (4 * d) = nI x.1 ∧ hh 66 (4 * d + 1) = nI x.2.1 ∧ hh 66 (4 * d + 2) = nI x.2.2.1 ∧ hh 66 (4 * d + 3) = nI x.2.2.2
          rw [fh 66 (by decide) (by decide)]; exact g66
        · exact e67
        · exact e68
        · rfl
        · rfl
      · intro d hd ih hh fh e68 e67
        have ho := ow_le hV hd
        have hx : hh 66 (4 * d + 3) = nI (ow ds d) := by
          rw [fh 66 (by decide) (by decide)]
          have := (g66 d ds[d] (List.getElem?_eq_getElem hd)).2.2.2
          rw [this]
          unfold ow
          rw [List.getD_eq_getElem?_getD, List.getElem?_eq_getElem hd]
          rfl
        refine w_X10_nursery_150 ?_
        rw [fh 61 (by decide) (by decide), g20, pk_mul, nI_add, nI_clamp (show 4 * d + 3 < 2 ^ 31 by omega), hx, nI_add, nI_clamp (show ow ds d < 2 ^ 31 by omega)]
        simp (disch := omega) only [nI_leI, nI_eq]
        refine ⟨fun z => by omega, fun _ => ⟨vp_in_nI (by omega) (by omega), fun z => ih hh fh e68 (fun c hc => ?_), fun z => ⟨vp_in_nI (by omega) (by omega), vp_in_nI (by omega) (by omega), ih _ (fun a h1 h2 => by rw [dh_s_n h1]; exact fh a h1 h2) e68 (fun c hc => ?_)⟩⟩⟩
        · rw [laF_s, e67 c hc, if_neg (by simp; omega)]
        · rw [laF_s]
          by_cases y : ow ds d = c
          · rw [← y, dh_s_eq, if_pos (by simp)]
          · rw [dh_s_nk (Ne.symm y), e67 c hc, if_neg (by simpa using y)]
    -- the row of now, and nobody's own
    have has : ∀ hh, (∀ a, a ≠ 68 → hh a = h2 a) → (∀ j, j < 32 → hh 68 j = nI 0) → dh_J G mX10_nursery 120 [some (.ref 61), none, some (.int (nI 0))] [] hh Q := by
      intro hh fh e68
      refine dh_up (P := fun i => ∀ hh, (∀ a, a ≠ 67 → a ≠ 68 → hh a = h2 a) → (∀ j, j < 32 → hh 68 j = if 1 ≤ j ∧ j ≤ i then -1 else nI 0) → (∀ c, c < i → hh 67 c = -1) → dh_J G mX10_nursery 120 [some (.ref 61), none, some (.int (nI i))] [] hh Q) 6 ?_ ?_ 0 (by omega) hh (fun a _ h1 => fh a h1) (fun j hj => by rw [if_neg (by omega)]; exact e68 j hj) (fun c hc => by omega)
      · intro hh fh e68 e67
        exact w_X10_nursery_120 ⟨fun _ => own hh fh e68 e67, fun z => absurd (Int32.le_refl _) z⟩
      · intro i hi ih hh fh e68 e67
        refine w_X10_nursery_120 ?_
        rw [nI_add, nI_add, nI_clamp (by omega), nI_clamp (by omega)]
        simp (disch := omega) only [nI_leI]
        refine ⟨fun z => by omega, fun _ => ⟨vp_in_nI (by omega) (by omega), vp_in_nI (by omega) (by omega), ih _ (fun a h1 h2 => by rw [dh_s_n h1, dh_s_n h2]; exact fh a h1 h2) (fun j hj => ?_) (fun c hc => ?_)⟩⟩
        · rw [dh_s_n (by decide)]
          by_cases y : j = 1 + i
          · subst y
            rw [dh_s_eq, if_pos (by omega)]
          · rw [dh_s_nk y, e68 j hj]
            by_cases y2 : 1 ≤ j ∧ j ≤ i
            · rw [if_pos y2, if_pos (by omega)]
            · rw [if_neg y2, if_neg (by omega)]
        · by_cases y : c = i
          · subst y
            rw [dh_s_eq]
          · rw [dh_s_nk y, dh_s_n (by decide)]
            exact e67 c (by omega)
    refine dh_up (P := fun i => ∀ hh, (∀ a, a ≠ 68 → hh a = h2 a) → (∀ j, j < i → hh 68 j = nI 0) → dh_J G mX10_nursery 99 [some (.ref 61), none, some (.int (nI i))] [] hh Q) 32 ?_ ?_ 0 (by omega) h2 (fun _ _ => rfl) (fun j hj => by omega)
    · intro hh fh e68
      exact w_X10_nursery_99 ⟨fun _ => has hh fh e68, fun z => absurd (Int32.le_refl _) z⟩
    · intro i hi ih hh fh e68
      refine w_X10_nursery_99 ?_
      rw [nI_add, nI_clamp (by omega)]
      simp (disch := omega) only [nI_leI]
      refine ⟨fun z => by omega, fun _ => ⟨vp_in_nI (by omega) (by omega), ih _ (fun a h1 => by rw [dh_s_n h1]; exact fh a h1) (fun j hj => ?_)⟩⟩
      by_cases y : j = i
      · subst y
        rw [dh_s_eq]
      · rw [dh_s_nk y]
        exact e68 j (by omega)
/-- what the class holds of a new nursery -/
def NC (h h1 : dh_H) (r : Nat × Nat × Nat × chL × dmL) : Prop :=
  (∀ a, 60 ≤ a → h1 a = h a) ∧ h1 54 = h 54 ∧ h1 1 1 = nI 0 ∧ h1 1 5 = -1 ∧ h1 3 0 = nI r.1 ∧ h1 3 1 = nI r.2.1 ∧ h1 3 2 = nI r.2.2.1 ∧ h1 3 3 = nI r.2.2.2.1.length ∧ h1 3 4 = nI r.2.2.2.2.length ∧
  (∀ c x, r.2.2.2.1[c]? = some x → h1 4 c = nI x.1 ∧ h1 5 c = nI x.2) ∧ (∀ c, c < r.2.2.2.1.length → h1 6 c = ownI r.2.2.2.2 c) ∧
  (∀ d x, r.2.2.2.2[d]? = some x → h1 7 d = nI x.1 ∧ h1 8 d = nI x.2.1 ∧ h1 9 d = nI x.2.2.1 ∧ h1 10 d = nI x.2.2.2) ∧
  h1 19 1 = nI 0 ∧ (∀ j, j < 6 → h1 20 j = -1 ∧ h1 21 j = nI 0 ∧ h1 22 j = nI 0 ∧ h1 23 j = nI 0 ∧ h1 24 j = nI 0) ∧ h1 25 1 = nI 0 ∧ h1 25 2 = nI 0 ∧ h1 37 1 = nI 0 ∧ h1 51 0 = nI 0 ∧ h1 56 0 = nI 0 ∧ h1 58 0 = nI 0
theorem d_nursery (c : CT t L h)
    (kE : ∀ k a h1, PT t L = .error (k, a) → (∀ b, b ≠ 1 → ¬ (11 ≤ b ∧ b ≤ 18) → h1 b = h b) → h1 1 1 = nI 0 → h1 1 5 = nI a → 0 < k → k ≤ 4 → Q (some (.int ((-10 : Int32) - nI k))) h1)
    (kO : ∀ r h1, PT t L = .ok r → NC h h1 r → Q (some (.int (nI r.2.2.2.1.length))) h1) : dh_C G mX9_nursery [.ref 0] h Q := by
  refine e_X9_nursery (d_readInto c (fun k a h1 e f e4 k0 k4 e5 => w_X9_nursery_11 ⟨fun z => absurd rfl z, fun _ => ?_⟩) (fun r h1 e f e5 I => w_X9_nursery_11 ⟨fun _ => ?_, fun z => absurd z (by decide)⟩))
  · rw [e4]
    exact kE k a _ e (fun b h1 h2 => by rw [dh_s_n h1]; exact f.1 b h1 h2) (dh_s_eq _ _ _ _) (by rw [dh_s_nk (by decide)]; exact e5) k0 k4
  · obtain ⟨hd, lo, od, cs, ds⟩ := r
    have hV : VD cs ds := (PT_ok e).1
    have hv1 := hV.1
    have hv2 := hV.2.1
    obtain ⟨i0, i1, i2, i3, i4, i5, i6, i7⟩ := I
    dsimp only at i0 i1 i2 i3 i4 i5 i6 i7
    refine d_copyFrom ?_ (fun h2 f2 e3 er => w_X9_nursery_46 (d_wreset (fun h3 f3 w1 w2 => w_X9_nursery_53 (d_forget (w_X9_nursery_60 (e_X7_clear (w_X9_nursery_67 ?_)))))))
    · show h1 11 0 = 0 ∨ h1 11 0 = 1
      rw [i0]
      rcases (PT_ok e).2.1 with z | z
      · left; rw [show hd = 0 from z]; rfl
      · right; rw [show hd = 1 from z]; rfl
    · generalize eh4 : dh_s (dh_s (dh_s (dh_s h3 25 1 (nI 0)) 25 2 (nI 0)) 37 1 (nI 0)) 51 0 (nI 0) = h4
      refine w_X9_nursery_86 ⟨fun z => absurd z (by decide), fun _ => ⟨vp_in_nI (by decide) (by decide), 56, 57, rfl, rfl, w_X9_nursery_86 ⟨fun z => absurd z (by decide), fun _ => ⟨show vp_in (nI 1) 2 from vp_in_nI (by decide) (by decide), 58, 59, rfl, rfl, w_X9_nursery_86 ⟨fun _ => ?_, fun z => absurd (by decide) z⟩⟩⟩⟩⟩
      have k3 : ∀ a, 3 ≤ a → a ≤ 10 → h4 a = h2 a := by
        intro a ha hb
        subst eh4
        rw [dh_s_n (by omega), dh_s_n (by omega), dh_s_n (by omega), dh_s_n (by omega)]
        exact f3 a (by omega)
      have e33 : h4 3 3 = nI cs.length := by rw [k3 3 (by omega) (by omega), e3 3 (by omega)]; exact i3
      show Q (some (.int (h4 3 3))) _
      rw [e33]
      have kr : ∀ r j, r < 7 → j < 6 → h4 (4 + r) j = h1 (12 + r) j := fun r j hr hj => by rw [k3 _ (by omega) (by omega), er r j hr hj, dh_s_n (by omega)]
      refine kO _ _ e ⟨fun a ha => ?_, ?_, ?_, ?_, ?_, ?_, ?_, e33, ?_, ?_, ?_, ?_, ?_, ?_, ?_, ?_, ?_, ?_, rfl, rfl⟩
      · rw [dh_s_n (by omega), dh_s_n (by omega)]
        subst eh4
        rw [dh_s_n (by omega), dh_s_n (by omega), dh_s_n (by omega), dh_s_n (by omega), f3 a (by omega), f2 a (by omega), dh_s_n (by omega)]
        exact f.1 a (by omega) (by omega)
      · show h4 54 = _
        subst eh4
        rw [dh_s_n (by omega), dh_s_n (by omega), dh_s_n (by omega), dh_s_n (by omega), f3 54 (by omega), f2 54 (by omega), dh_s_n (by omega)]
        exact f.1 54 (by omega) (by omega)
      · show h4 1 1 = _
        subst eh4
        rw [dh_s_n (by omega), dh_s_n (by omega), dh_s_n (by omega), dh_s_n (by omega), f3 1 (by omega), f2 1 (by omega), dh_s_eq]
      · show h4 1 5 = _
        subst eh4
        rw [dh_s_n (by omega), dh_s_n (by omega), dh_s_n (by omega), dh_s_n (by omega), f3 1 (by omega), f2 1 (by omega), dh_s_nk (by decide)]
        exact e5
      · show h4 3 0 = _
        rw [k3 3 (by omega) (by omega), e3 0 (by omega)]; exact i0
      · show h4 3 1 = _
        rw [k3 3 (by omega) (by omega), e3 1 (by omega)]; exact i1
      · show h4 3 2 = _
        rw [k3 3 (by omega) (by omega), e3 2 (by omega)]; exact i2
      · show h4 3 4 = _
        rw [k3 3 (by omega) (by omega), e3 4 (by omega)]; exact i4
      · intro c x hx
        have hc := (List.getElem?_eq_some_iff.mp hx).1
        show h4 (4 + 0) c = _ ∧ h4 (4 + 1) c = _
        dsimp only at hc
        rw [kr 0 c (by omega) (by omega), kr 1 c (by omega) (by omega)]
        exact i5 c x hx
      · intro c hc
        dsimp only at hc
        show h4 (4 + 2) c = _
        rw [kr 2 c (by omega) (by omega)]
        exact i7 c hc
      · intro d x hx
        have hc := (List.getElem?_eq_some_iff.mp hx).1
        dsimp only at hc
        show h4 (4 + 3) d = _ ∧ h4 (4 + 4) d = _ ∧ h4 (4 + 5) d = _ ∧ h4 (4 + 6) d = _
        rw [kr 3 d (by omega) (by omega), kr 4 d (by omega) (by omega), kr 5 d (by omega) (by omega), kr 6 d (by omega) (by omega)]
        exact i6 d x hx
      · show h4 19 1 = _
        subst eh4
        exact w1
      · show ∀ j, j < 6 → h4 20 j = -1 ∧ h4 21 j = nI 0 ∧ h4 22 j = nI 0 ∧ h4 23 j = nI 0 ∧ h4 24 j = nI 0
        subst eh4
        exact w2
      · subst eh4; rfl
      · subst eh4; rfl
      · subst eh4; rfl
      · subst eh4; rfl
theorem ownI_oI (hv : ds.length < 2 ^ 31) (c : Nat) : oI (ownI ds c) ds.length := by
  by_cases z : ownI ds c = -1
  · exact Or.inl z
  · obtain ⟨d, h1, h2, -⟩ := laF_in z
    exact Or.inr ⟨d, h1, h2⟩
theorem WV_new {w n : Nat → Int32} {C D : Nat} (hC : C ≤ 6) (hD : D ≤ 6) (w0 : w 0 = nI 0) (w1 : ∀ j, j < 6 → w (1 + j) = -1 ∧ w (7 + j) = nI 0 ∧ w (13 + j) = nI 0 ∧ w (19 + j) = nI 0 ∧ w (25 + j) = nI 0) (n1 : ∀ j, j < 32 → n j = if 1 ≤ j ∧ j ≤ 6 then -1 else nI 0) : WV w n C D := by
  refine ⟨by rw [w0, n1 0 (by omega)]; rfl, fun d hd => Or.inl (w1 d (by omega)).1, fun d c hd hc => ?_, fun c hc => Or.inl ?_, ?_, fun d hd => ⟨?_, ?_⟩, fun c hc => ⟨?_, ?_, ?_⟩⟩
  · rw [(w1 d (by omega)).1, n1 (1 + c) (by omega), if_pos (by omega)]
    exact ⟨fun z => absurd z (m1_ne_nI (by omega)), fun z => absurd z (m1_ne_nI (by omega))⟩
  · rw [n1 (1 + c) (by omega), if_pos (by omega)]
  · rw [n1 19 (by omega), if_neg (by omega)]
    have : ∀ m, m ≤ 6 → stF (fun d => decide (w (1 + d) = -2)) m = nI 0 := by
      intro m
      induction m with
      | zero => intro _; rfl
      | succ m ih =>
        intro hm
        have e : decide (w (1 + m) = -2) = false := by
          rw [(w1 m (by omega)).1]
          decide
        rw [stF_f (f := fun d => decide (w (1 + d) = -2)) e, or_n0]
        exact ih (by omega)
    exact (this D hD).symm
  · rw [(w1 d (by omega)).2.1, n1 (20 + d) (by omega), if_neg (by omega)]
  · rw [(w1 d (by omega)).2.2.1, n1 (26 + d) (by omega), if_neg (by omega)]
  · rw [(w1 c (by omega)).2.2.2.1, n1 (7 + c) (by omega), if_neg (by omega)]
  · rw [(w1 c (by omega)).2.2.2.2, n1 (13 + c) (by omega), if_neg (by omega)]
  · rw [n1 (7 + c) (by omega), if_neg (by omega)]
    decide
theorem sim_nursery (I : Inv h) : SM G mX9_nursery mX10_nursery [] h := by
  obtain ⟨C, D, R⟩ := I
  obtain ⟨r1, r2, r3, r4, ⟨t0, b, r5⟩, ⟨s, r6⟩, r7, ⟨T, r8⟩, ⟨E, r9⟩, ⟨L, r10⟩⟩ := R
  obtain ⟨t1, t2, t3, t4, t5⟩ := r10
  have ht : ∀ k, k < L → h 62 k = nI (h 62 k).toNatClampNeg ∧ (h 62 k).toNatClampNeg ≤ 255 := by
    intro k hk
    obtain ⟨-, x, hx, ex⟩ := t4 k hk
    rw [ex, nI_clamp (by omega)]
    exact ⟨rfl, hx⟩
  have hCT : CT (fun k => (h 62 k).toNatClampNeg) L h := ⟨t1, t3, fun k hk => ⟨by rw [(t4 k hk).1]; exact (ht k hk).1, (ht k hk).2⟩⟩
  have hMT : MT (fun k => (h 62 k).toNatClampNeg) L h := ⟨t2, t3, ht⟩
  generalize (fun k => (h 62 k).toNatClampNeg) = t at hCT hMT
  refine d_nursery hCT (fun k a h1 e f e1 e5 k0 k4 => ⟨_, rfl, ?_⟩) (fun r h1 e N => ⟨_, rfl, ?_⟩)
  · have hM1 : MT t L h1 := by
      unfold MT at hMT ⊢
      rw [f 61 (by decide) (by omega), f 62 (by decide) (by omega)]
      exact hMT
    refine c_nursery hM1 (fun k2 a2 h2 e2 f2 f3 g0 g7 _ _ => ?_) (fun r2 h2 e2 _ => ?_)
    · rw [e] at e2
      cases e2
      refine ⟨rfl, C, D, ?_⟩
      have hc : ∀ a, a ≠ 1 → ¬ (11 ≤ a ∧ a ≤ 18) → a ≠ 61 → a ≠ 63 → a ≠ 64 → h2 a = h a := fun a x1 x2 x3 x4 x5 => by rw [f2 a x3 x4 x5]; exact f a x1 x2
      have h61 : ∀ j, 14 ≤ j → h2 61 j = h 61 j := fun j hj => by rw [f3 j hj, f 61 (by decide) (by omega)]
      refine ⟨?_, PR_cg r2 (fun a x1 x2 => hc a (by omega) (by omega) (by omega) (by omega) (by omega)) (fun a x1 x2 => hc a (by omega) (by omega) (by omega) (by omega) (by omega)), ?_, ?_, ⟨t0, b, ?_⟩, ⟨s, ?_⟩, ?_, ⟨T, ?_⟩, ⟨E, ?_⟩, ⟨0, ?_, g0, by omega, fun k hk => by omega, ?_⟩⟩
      · unfold mN at r1 ⊢
        rw [h61 19 (by omega), h61 20 (by omega)]
        exact r1
      · unfold PX PL at r3 ⊢
        rw [hc 3 (by decide) (by omega) (by decide) (by decide) (by decide), h61 16 (by omega), h61 17 (by omega), h61 18 (by omega)]
        exact r3
      · rw [hc 68 (by decide) (by omega) (by decide) (by decide) (by decide), wv_cg (h := h) (fun a x1 x2 => hc a (by omega) (by omega) (by omega) (by omega) (by omega))]
        exact r4
      · exact PA_cg r5 (hc 25 (by decide) (by omega) (by decide) (by decide) (by decide)) (hc 26 (by decide) (by omega) (by decide) (by decide) (by decide)) (h61 26 (by omega)) (hc 69 (by decide) (by omega) (by decide) (by decide) (by decide))
      · unfold DR at r6 ⊢
        rw [hc 54 (by decide) (by omega) (by decide) (by decide) (by decide), h61 30 (by omega)]
        exact r6
      · unfold IM1 at r7 ⊢
        rw [hc 56 (by decide) (by omega) (by decide) (by decide) (by decide), hc 58 (by decide) (by omega) (by decide) (by decide) (by decide), hc (56 + 1) (by decide) (by omega) (by decide) (by decide) (by decide), hc (58 + 1) (by decide) (by omega) (by decide) (by decide) (by decide), hc 70 (by decide) (by omega) (by decide) (by decide) (by decide), hc 71 (by decide) (by omega) (by decide) (by decide) (by decide), hc 72 (by decide) (by omega) (by decide) (by decide) (by decide)]
        exact r7
      · unfold RI at r8 ⊢
        rw [hc 37 (by decide) (by omega) (by decide) (by decide) (by decide), hc 38 (by decide) (by omega) (by decide) (by decide) (by decide), hc 39 (by decide) (by omega) (by decide) (by decide) (by decide), hc 40 (by decide) (by omega) (by decide) (by decide) (by decide), h61 31 (by omega), hc 73 (by decide) (by omega) (by decide) (by decide) (by decide)]
        exact r8
      · unfold BO at r9 ⊢
        rw [hc 51 (by decide) (by omega) (by decide) (by decide) (by decide), hc 52 (by decide) (by omega) (by decide) (by decide) (by decide), hc 53 (by decide) (by omega) (by decide) (by decide) (by decide), h61 33 (by omega), hc 74 (by decide) (by omega) (by decide) (by decide) (by decide)]
        exact r9
      · rw [f2 1 (by decide) (by decide) (by decide)]; exact e1
      · rw [f2 1 (by decide) (by decide) (by decide), g7]; exact e5
    · rw [e] at e2
      cases e2
  · obtain ⟨N1, N2, N3, N4, N5, N6, N7, N8, N9, N10, N11, N12, N13, N14, N15, N16, N17, N18, N19, N20⟩ := N
    have hM1 : MT t L h1 := by
      unfold MT at hMT ⊢
      rw [N1 61 (by decide), N1 62 (by decide)]
      exact hMT
    refine c_nursery hM1 (fun k2 a2 h2 e2 _ _ _ _ _ _ => ?_) (fun r2 h2 e2 M => ?_)
    · rw [e] at e2
      cases e2
    · rw [e] at e2
      cases e2
      obtain ⟨hd, lo, od, cs, ds⟩ := r
      obtain ⟨M1, M2, M3, M4, M5, M6, M7, M8, M9, M10, M11, M12, M13, M14, M15, M16, M17, M18⟩ := M
      dsimp only at N5 N6 N7 N8 N9 N10 N11 N12 M4 M5 M6 M7 M8 M13 M14 M15
      obtain ⟨hV, hh, hlo, hod⟩ := PT_ok e
      dsimp only at hV hh hlo hod
      have hv1 := hV.1
      have hv2 := hV.2.1
      refine ⟨rfl, cs.length, ds.length, ⟨M7, hv1, M8, hv2⟩, ?_, ?_, ?_, ⟨0, 0, ?_⟩, ⟨s, ?_⟩, ⟨?_, ?_⟩, ⟨0, ?_⟩, ⟨0, ?_⟩, ⟨0, ?_⟩⟩
      · refine ⟨by rw [M1 3 (by decide)]; exact N8, hv1, by rw [M1 3 (by decide)]; exact N9, hv2, fun c hc => ?_, fun d hd => ?_⟩
        · have x := N10 c cs[c] (List.getElem?_eq_getElem hc)
          have y := M13 c cs[c] (List.getElem?_eq_getElem hc)
          have z := (hV.2.2.1 cs[c] (List.getElem_mem hc)).1
          rw [M1 4 (by decide), M1 5 (by decide), M1 6 (by decide), x.1, x.2, y.1, y.2, N11 c hc, M15 c (by omega)]
          refine ⟨rfl, rfl, rfl, ownI_oI (by omega) c, ?_⟩
          rcases (show cs[c].1 = 0 ∨ cs[c].1 = 1 ∨ cs[c].1 = 2 ∨ cs[c].1 = 3 by omega) with w | w | w | w <;> rw [w]
          · exact Or.inl rfl
          · exact Or.inr (Or.inl rfl)
          · exact Or.inr (Or.inr (Or.inl rfl))
          · exact Or.inr (Or.inr (Or.inr rfl))
        · have x := N12 d ds[d] (List.getElem?_eq_getElem hd)
          have y := M14 d ds[d] (List.getElem?_eq_getElem hd)
          rw [M1 7 (by decide), M1 8 (by decide), M1 9 (by decide), M1 10 (by decide), x.1, x.2.1, x.2.2.1, x.2.2.2, y.1, y.2.1, y.2.2.1, y.2.2.2]
          exact ⟨rfl, rfl, rfl, rfl⟩
      · refine ⟨by rw [M1 3 (by decide), M4]; exact N5, ?_, ⟨by rw [M1 3 (by decide), M5]; exact N6, by rw [M5]; exact nI_pos (by omega)⟩, by rw [M1 3 (by decide), M6]; exact N7, od, hod, M6⟩
        rw [M4]
        rcases hh with z | z <;> rw [z]
        · exact Or.inl rfl
        · exact Or.inr rfl
      · have e19 : wv h2 = wv h1 := wv_cg (fun a x1 x2 => M1 a (by omega))
        rw [e19]
        refine WV_new hv1 hv2 N13 (fun j hj => ?_) M16
        have := N14 j hj
        rw [wv_pl h1 hj, wv_bo h1 hj, wv_ge h1 hj, wv_co h1 hj, wv_ho h1]
        exact this
      · refine ⟨by rw [M1 25 (by decide)]; exact N15, by omega, by rw [M1 25 (by decide)]; exact N16, by omega, M9, fun j hj => by omega⟩
      · unfold DR at r6 ⊢
        rw [M1 54 (by decide), N2, M12, N1 61 (by decide)]
        exact r6
      · refine ⟨by rw [M1 56 (by decide), M17]; exact N19, Or.inl M17, fun z => ?_⟩
        rw [M17] at z
        exact absurd z (by decide)
      · refine ⟨by rw [M1 58 (by decide), M18]; exact N20, Or.inl M18, fun z => ?_⟩
        rw [M18] at z
        exact absurd z (by decide)
      · exact ⟨by rw [M1 37 (by decide)]; exact N17, M10, by omega, fun k hk => by omega⟩
      · exact ⟨by rw [M1 51 (by decide)]; exact N18, M11, by omega, fun k hk => by omega⟩
      · exact ⟨by rw [M1 1 (by decide)]; exact N3, M2, by omega, fun k hk => by omega, by rw [M1 1 (by decide), M3]; exact N4⟩
end NU
