/-! the whole text, pure; the class's readInto, copyFrom, reset, nursery -/
def HD (t : Nat → Nat) (L p : Nat) : Except (Nat × Nat) (Nat × Nat × Nat) :=
  if t p = 110 then (match NR t L (p + 1) 1 99 with
  | .error e => .error e
  | .ok a => match NR t L a.2 0 100 with
    | .error e => .error e
    | .ok b => match SC t L b.2 with
      | .error e => .error e
      | .ok q => .ok (a.1, b.1, q)) else .error (1, p)
def PM (t : Nat → Nat) (L : Nat) : Nat → Nat → chL → dmL → Except (Nat × Nat) (chL × dmL)
  | 0, _, _, _ => .error (0, 0)
  | n + 1, p, cs, ds => if sk t L p < L then (match CL t L (sk t L p) cs ds with
    | .error e => .error e
    | .ok r => PM t L n r.1 r.2.1 r.2.2) else .ok (cs, ds)
/-- what a text tells: whether there is a nursery, how long a cold lasts, odds, children, dummies; or its first fault -/
def PT (t : Nat → Nat) (L : Nat) : Except (Nat × Nat) (Nat × Nat × Nat × chL × dmL) :=
  if sk t L 0 < L then (match HD t L (sk t L 0) with
  | .error e => .error e
  | .ok r => match PM t L (L + 1) r.2.2 [] [] with
    | .error e => .error e
    | .ok q => .ok (1, r.1, r.2.1, q.1, q.2)) else .ok (0, 0, 0, [], [])
theorem HD_pos {t : Nat → Nat} {L p : Nat} {r : Nat × Nat × Nat} (hp : p < L) (h : HD t L p = .ok r) : p < r.2.2 ∧ r.2.2 ≤ L ∧ 1 ≤ r.1 ∧ r.1 ≤ 99 ∧ r.2.1 ≤ 100 := by
  unfold HD at h
  by_cases q : t p = 110
  · rw [if_pos q] at h
    cases hA : NR t L (p + 1) 1 99 with
    | error e => rw [hA] at h; cases h
    | ok a =>
      rw [hA] at h
      dsimp only at h
      have a1 := NR_pos (show p + 1 ≤ L by omega) (show NR t L (p + 1) 1 99 = .ok (a.1, a.2) from hA)
      cases hB : NR t L a.2 0 100 with
      | error e => rw [hB] at h; cases h
      | ok b =>
        rw [hB] at h
        dsimp only at h
        have b1 := NR_pos (show a.2 ≤ L by omega) (show NR t L a.2 0 100 = .ok (b.1, b.2) from hB)
        cases hS : SC t L b.2 with
        | error e => rw [hS] at h; cases h
        | ok r =>
          rw [hS] at h
          dsimp only at h
          have s1 := SC_pos (show b.2 ≤ L by omega) hS
          cases h
          exact ⟨by dsimp only; omega, by dsimp only; omega, by dsimp only; omega, by dsimp only; omega, by dsimp only; omega⟩
  · rw [if_neg q] at h
    cases h
theorem PM_ok {t : Nat → Nat} {L : Nat} : ∀ n p (cs : chL) (ds : dmL) (r : chL × dmL), p ≤ L → VD cs ds → PM t L n p cs ds = .ok r → VD r.1 r.2
  | 0, _, _, _, _, _, _, h => by cases h
  | n + 1, p, cs, ds, r, hp, hV, h => by
    unfold PM at h
    have hs := sk_ge t hp
    by_cases q : sk t L p < L
    · rw [if_pos q] at h
      cases hC : CL t L (sk t L p) cs ds with
      | error e => rw [hC] at h; cases h
      | ok z =>
        rw [hC] at h
        dsimp only at h
        obtain ⟨a, b, c⟩ := CL_ok q hV (show CL t L (sk t L p) cs ds = .ok (z.1, z.2.1, z.2.2) from hC)
        exact PM_ok n z.1 z.2.1 z.2.2 r b c h
    · rw [if_neg q] at h
      cases h
      exact hV
theorem VD_nil : VD [] [] := ⟨by decide, by decide, ⟨fun x h => absurd h List.not_mem_nil, fun x h => absurd h List.not_mem_nil⟩⟩
theorem PT_ok {t : Nat → Nat} {L : Nat} {r : Nat × Nat × Nat × chL × dmL} (h : PT t L = .ok r) : VD r.2.2.2.1 r.2.2.2.2 ∧ (r.1 = 0 ∨ r.1 = 1) ∧ r.2.1 ≤ 99 ∧ r.2.2.1 ≤ 100 := by
  unfold PT at h
  by_cases q : sk t L 0 < L
  · rw [if_pos q] at h
    cases hH : HD t L (sk t L 0) with
    | error e => rw [hH] at h; cases h
    | ok a =>
      rw [hH] at h
      dsimp only at h
      have a1 := HD_pos q hH
      cases hM : PM t L (L + 1) a.2.2 [] [] with
      | error e => rw [hM] at h; cases h
      | ok z =>
        rw [hM] at h
        dsimp only at h
        cases h
        exact ⟨PM_ok _ _ _ _ z a1.2.1 VD_nil hM, Or.inr rfl, a1.2.2.2.1, a1.2.2.2.2⟩
  · rw [if_neg q] at h
    cases h
    exact ⟨VD_nil, Or.inl rfl, by decide, by decide⟩
section RI2
variable {G : dh_G} {h : dh_H} {Q : Option Value → dh_H → Prop} {t : Nat → Nat} {L : Nat} {cs : chL} {ds : dmL}
theorem DC_11 {h h1 : dh_H} (d : DC h cs ds) (f : ∀ a, 12 ≤ a → a ≤ 18 → h1 a = h a) (f3 : h1 11 3 = h 11 3) (f4 : h1 11 4 = h 11 4) : DC h1 cs ds := by
  unfold DC at d ⊢
  rw [f3, f4, f 12 (by omega) (by omega), f 13 (by omega) (by omega), f 14 (by omega) (by omega), f 15 (by omega) (by omega), f 16 (by omega) (by omega), f 17 (by omega) (by omega), f 18 (by omega) (by omega)]
  exact d
theorem FT_11 {k a j : Nat} {x : Int32} (f : FT L h k a) : FT L (dh_s h 11 j x) k a := f
theorem d_readHead {p : Nat} (c : CT t L h) (s : ST L h p) (hp : p < L) (d : DC h cs ds)
    (kE : ∀ k a h1, HD t L p = .error (k, a) → fX h h1 → FT L h1 k a → Q none h1)
    (kO : ∀ lo od p' h1, HD t L p = .ok (lo, od, p') → fX h h1 → ST L h1 p' → DC h1 cs ds → h1 1 5 = h 1 5 → h1 11 0 = nI 1 → h1 11 1 = nI lo → h1 11 2 = nI od → Q none h1) : dh_C G mX6_readHead [.ref 1, .ref 11] h Q := by
  have ht := (c.2.2 p hp).2
  refine e_X6_readHead (d_letterHere c s.2.1 s.1 ?_)
  have el : lt t L p = nI (t p) := by unfold lt; rw [if_pos hp]
  rw [el]
  refine w_X6_readHead_4 ?_
  rw [nI_eq (by omega) (by decide), s.1, nI_add]
  have fin : ∀ x2 x3 h1, fX h h1 → fX h (dh_s (dh_s (dh_s h1 11 0 (nI 1)) 11 1 x2) 11 2 x3) := fun x2 x3 h1 f => fX_s (fX_s (fX_s f ⟨by decide, by decide⟩) ⟨by decide, by decide⟩) ⟨by decide, by decide⟩
  refine ⟨fun q => ?_, fun q => ?_⟩
  · have f0 : fR h (dh_s h 1 2 (nI (p + 1))) := fR_s (fR_rf h) (by decide)
    refine d_readNumber (t := t) (L := L) (CT_fR c f0) (ST_up s hp) (by omega) (by omega) (fun k a v h1 e f F => ?_) (fun v1 p1 h1 e1 f1 S1 _ e15 => ?_)
    · refine w_X6_readHead_36 (d_readNumber_f (FT_4 F) (w_X6_readHead_44 (d_readSemicolon_f (FT_4 F) (w_X6_readHead_49 (kE k a _ ?_ (fin _ _ _ (fX_R (fR_tr f0 f))) F)))))
      unfold HD
      rw [if_pos q, e]
    · have F1 := fR_tr f0 f1
      refine w_X6_readHead_36 (d_readNumber (CT_fR c F1) S1 (by omega) (by omega) (fun k a v h2 e f F => ?_) (fun v2 p2 h2 e2 f2 S2 _ e25 => ?_))
      · refine w_X6_readHead_44 (d_readSemicolon_f (FT_4 F) (w_X6_readHead_49 (kE k a _ ?_ (fin _ _ _ (fX_R (fR_tr F1 f))) F)))
        unfold HD
        rw [if_pos q, e1]
        dsimp only
        rw [e]
      · have F2 := fR_tr F1 f2
        refine w_X6_readHead_44 (d_readSemicolon (CT_fR c F2) S2 (fun k a h3 e f F => ?_) (fun p3 h3 e3 f3 S3 e35 => ?_))
        · refine w_X6_readHead_49 (kE k a _ ?_ (fin _ _ _ (fX_R (fR_tr F2 f))) F)
          unfold HD
          rw [if_pos q, e1]
          dsimp only
          rw [e2]
          dsimp only
          rw [e]
        · have F3 := fR_tr F2 f3
          refine w_X6_readHead_49 (kO v1 v2 p3 _ ?_ (fin _ _ _ (fX_R F3)) S3 (DC_11 (DC_fR d F3) (fun a _ _ => by rw [dh_s_n (by omega), dh_s_n (by omega), dh_s_n (by omega)]) rfl rfl) ?_ rfl rfl rfl)
          · unfold HD
            rw [if_pos q, e1]
            dsimp only
            rw [e2]
            dsimp only
            rw [e3]
          · show h3 1 5 = h 1 5
            rw [e35, e25, e15]
            rfl
  · refine d_fail s.2.2 (w_X6_readHead_18 (kE 1 p _ ?_ (fX_R (fR_s (fR_s (fR_rf h) (by decide)) (by decide))) ⟨⟨p, ?_, s.2.1⟩, ?_, by decide, by decide, dh_s_eq _ _ _ _⟩))
    · unfold HD
      rw [if_neg q]
    · rw [dh_s_nk (by decide), dh_s_nk (by decide)]
      exact s.1
    · rw [dh_s_nk (by decide), dh_s_eq]
/-- the draft as a text tells it -/
def DI (h : dh_H) (r : Nat × Nat × Nat × chL × dmL) : Prop := h 11 0 = nI r.1 ∧ h 11 1 = nI r.2.1 ∧ h 11 2 = nI r.2.2.1 ∧ DC h r.2.2.2.1 r.2.2.2.2
theorem fX_1 {h h1 : dh_H} (f : fX h h1) {k : Nat} {x : Int32} (hk : 2 ≤ k) : fX h (dh_s h1 1 k x) := ⟨fun a ha hb => by rw [dh_s_n ha]; exact f.1 a ha hb, fun j hj => by rw [dh_s_nk (by omega)]; exact f.2 j hj⟩
theorem d_readInto (c : CT t L h)
    (kE : ∀ k a h1, PT t L = .error (k, a) → fX h h1 → h1 1 4 = nI k → 0 < k → k ≤ 4 → h1 1 5 = nI a → Q (some (.int (nI 0))) h1)
    (kO : ∀ r h1, PT t L = .ok r → fX h h1 → h1 1 5 = -1 → DI h1 r → Q (some (.int (nI 1))) h1) : dh_C G mX6_readInto [.ref 1, .ref 11] h Q := by
  have hL := c.2.1
  refine e_X6_readInto (e_X5_reset (w_X6_readInto_4 ?_))
  generalize eh0 : dh_s (dh_s (dh_s (dh_s (dh_s (dh_s (dh_s (dh_s h 11 0 (nI 0)) 11 1 (nI 0)) 11 2 (nI 0)) 11 3 (nI 0)) 11 4 (nI 0)) 1 2 (nI 0)) 1 4 (nI 0)) 1 5 (-1) = h0
  have f0 : fX h h0 := by
    subst eh0
    exact fX_1 (fX_1 (fX_1 (fX_s (fX_s (fX_s (fX_s (fX_s (fX_R (fR_rf h)) ⟨by decide, by decide⟩) ⟨by decide, by decide⟩) ⟨by decide, by decide⟩) ⟨by decide, by decide⟩) ⟨by decide, by decide⟩) (by decide)) (by decide)) (by decide)
  have s0 : ST L h0 0 := by subst eh0; exact ⟨rfl, by omega, rfl⟩
  have e05 : h0 1 5 = -1 := by subst eh0; rfl
  have D0 : DI h0 (0, 0, 0, [], []) := by
    subst eh0
    exact ⟨rfl, rfl, rfl, rfl, rfl, fun c x hx => by simp at hx, fun d x hx => by simp at hx, fun c hc => by simp at hc⟩
  have c0 := CT_fX c f0
  clear eh0
  refine d_skipBlanks c0 (by omega) s0.1 ?_
  have hs0 := sk_ge t (show 0 ≤ L by omega)
  have c1 : CT t L (dh_s h0 1 2 (nI (sk t L 0))) := CT_fR c0 (fR_s (fR_rf _) (by decide))
  have f1 : fX h (dh_s h0 1 2 (nI (sk t L 0))) := fX_1 f0 (by decide)
  have s1 : ST L (dh_s h0 1 2 (nI (sk t L 0))) (sk t L 0) := ⟨dh_s_eq _ _ _ _, hs0.2, s0.2.2⟩
  refine w_X6_readInto_23 ?_
  rw [dh_s_eq, show dh_s h0 1 2 (nI (sk t L 0)) 1 1 = h0 1 1 from rfl, c0.1, nI_ltI (by omega) (by omega)]
  refine ⟨fun q => ?_, fun q => kO (0, 0, 0, [], []) _ (by unfold PT; rw [if_neg q]) f1 e05 D0⟩
  -- the clauses
  have loop : ∀ n i p (cs : chL) (ds : dmL) hh lo od, L - p < n → p ≤ L → i < p → VD cs ds → fX h hh → ST L hh (sk t L p) → DC hh cs ds → hh 1 5 = -1 → hh 11 0 = nI 1 → hh 11 1 = nI lo → hh 11 2 = nI od →
      (∀ k a h1, PM t L n p cs ds = .error (k, a) → fX h h1 → h1 1 4 = nI k → 0 < k → k ≤ 4 → h1 1 5 = nI a → Q (some (.int (nI 0))) h1) →
      (∀ r h1, PM t L n p cs ds = .ok r → fX h h1 → h1 1 5 = -1 → DI h1 (1, lo, od, r.1, r.2) → Q (some (.int (nI 1))) h1) →
      dh_J G mX6_readInto 47 [some (.ref 1), some (.ref 11), some (.int (nI i))] [] hh Q := by
    intro n
    induction n with
    | zero => intro i p cs ds hh lo od h1; omega
    | succ n ih =>
      intro i p cs ds hh lo od hn hp hi hV f S D e5 g0 g1 g2 kE kO
      have hs := sk_ge t hp
      have cc := CT_fX c f
      refine w_X6_readInto_47 ?_
      rw [S.1, cc.1, S.2.2, nI_leI (by decide) (by omega), nI_leI (by omega) (by omega)]
      refine ⟨fun z => ?_, fun _ => ⟨fun z => absurd rfl z, fun _ => ⟨fun z => ⟨fun z2 => absurd rfl z2, fun _ => kO (cs, ds) hh (by unfold PM; rw [if_neg (by omega)]) f e5 ⟨g0, g1, g2, D⟩⟩, fun z => ?_⟩⟩⟩
      · refine ⟨fun z2 => absurd rfl z2, fun _ => kO (cs, ds) hh (by unfold PM; rw [if_neg (by omega)]) f e5 ⟨g0, g1, g2, D⟩⟩
      · have hlt : sk t L p < L := by omega
        have hPM : PM t L (n + 1) p cs ds = match CL t L (sk t L p) cs ds with
          | .error e => .error e
          | .ok r => PM t L n r.1 r.2.1 r.2.2 := by
          show (if sk t L p < L then _ else _) = _
          rw [if_pos hlt]
        refine d_readClause hV cc S hlt D (fun k a h1 e f1 F => w_X6_readInto_77 ?_) (fun p' cs' ds' h1 e f1 S1 D1 e15 g => w_X6_readInto_77 ?_)
        · obtain ⟨⟨j, j1, j2⟩, F2, F3, F4, F5⟩ := F
          refine d_skipBlanks (CT_fX cc f1) j2 j1 (w_X6_readInto_81 ?_)
          have e4 : dh_s h1 1 2 (nI (sk t L j)) 1 4 = nI k := F2
          have ne : ¬ dh_s h1 1 2 (nI (sk t L j)) 1 4 = 0 := by rw [e4]; exact nI_ne0 F3 (by omega)
          have out := kE k a (dh_s h1 1 2 (nI (sk t L j))) (by rw [hPM, e]) (fX_1 (fX_tr f f1) (by decide)) e4 F3 F4 F5
          refine w_X6_readInto_47 ⟨fun _ => ⟨fun _ => out, fun z => absurd z ne⟩, fun _ => ⟨fun _ => ⟨fun _ => out, fun z => absurd z ne⟩, fun z => absurd z ne⟩⟩
        · obtain ⟨o1, o2, o3⟩ := CL_ok hlt hV e
          refine d_skipBlanks (CT_fX cc f1) S1.2.1 S1.1 (w_X6_readInto_81 ?_)
          rw [nI_add]
          have hs' := sk_ge t S1.2.1
          refine ih (i + 1) p' cs' ds' _ lo od (by omega) o2 (by omega) o3 (fX_1 (fX_tr f f1) (by decide)) ⟨dh_s_eq _ _ _ _, hs'.2, S1.2.2⟩ (DC_fR D1 (fR_s (fR_rf _) (by decide))) (by show h1 1 5 = -1; rw [e15]; exact e5) (by show h1 11 0 = nI 1; rw [g 0 (by omega)]; exact g0) (by show h1 11 1 = nI lo; rw [g 1 (by omega)]; exact g1) (by show h1 11 2 = nI od; rw [g 2 (by omega)]; exact g2) (fun k a h2 e2 => kE k a h2 (by rw [hPM, e]; exact e2)) (fun r h2 e2 => kO r h2 (by rw [hPM, e]; exact e2))
  have hPT : PT t L = match HD t L (sk t L 0) with
    | .error e => .error e
    | .ok r => match PM t L (L + 1) r.2.2 [] [] with
      | .error e => .error e
      | .ok q => .ok (1, r.1, r.2.1, q.1, q.2) := by
    unfold PT
    rw [if_pos q]
  refine d_readHead c1 s1 q (cs := []) (ds := []) D0.2.2.2 (fun k a h1 e f F => w_X6_readInto_41 ?_) (fun lo od p' h1 e f S D e5 g0 g1 g2 => w_X6_readInto_41 ?_)
  · obtain ⟨⟨j, j1, j2⟩, F2, F3, F4, F5⟩ := F
    refine d_skipBlanks (CT_fX c1 f) j2 j1 (w_X6_readInto_45 ?_)
    have e4 : dh_s h1 1 2 (nI (sk t L j)) 1 4 = nI k := F2
    have ne : ¬ dh_s h1 1 2 (nI (sk t L j)) 1 4 = 0 := by rw [e4]; exact nI_ne0 F3 (by omega)
    have out := kE k a (dh_s h1 1 2 (nI (sk t L j))) (by rw [hPT, e]) (fX_1 (fX_tr f1 f) (by decide)) e4 F3 F4 F5
    exact w_X6_readInto_47 ⟨fun _ => ⟨fun _ => out, fun z => absurd z ne⟩, fun _ => ⟨fun _ => ⟨fun _ => out, fun z => absurd z ne⟩, fun z => absurd z ne⟩⟩
  · have hd := HD_pos q e
    dsimp only at hd
    refine d_skipBlanks (CT_fX c1 f) S.2.1 S.1 (w_X6_readInto_45 ?_)
    have hs' := sk_ge t S.2.1
    refine loop (L + 1) 0 p' [] [] _ lo od (by omega) (by omega) (by omega) VD_nil (fX_1 (fX_tr f1 f) (by decide)) ⟨dh_s_eq _ _ _ _, hs'.2, S.2.2⟩ (DC_fR D (fR_s (fR_rf _) (by decide))) (by show h1 1 5 = -1; rw [e5]; exact e05) g0 g1 g2 (fun k a h2 e2 => kE k a h2 ?_) (fun r h2 e2 => kO _ h2 ?_)
    · rw [hPT, e]
      dsimp only
      rw [e2]
    · rw [hPT, e]
      dsimp only
      rw [e2]
theorem d_copyRow_4 (k : Q none (dh_c h 12 4 0 0 6)) : dh_C G mX5_copyRow [.ref 12, .ref 4] h Q := e_X5_copyRow_4 ⟨by decide, by decide, by decide, by decide, by decide, k⟩
theorem d_copyRow_5 (k : Q none (dh_c h 13 5 0 0 6)) : dh_C G mX5_copyRow [.ref 13, .ref 5] h Q := e_X5_copyRow_5 ⟨by decide, by decide, by decide, by decide, by decide, k⟩
theorem d_copyRow_6 (k : Q none (dh_c h 14 6 0 0 6)) : dh_C G mX5_copyRow [.ref 14, .ref 6] h Q := e_X5_copyRow_6 ⟨by decide, by decide, by decide, by decide, by decide, k⟩
theorem d_copyRow_7 (k : Q none (dh_c h 15 7 0 0 6)) : dh_C G mX5_copyRow [.ref 15, .ref 7] h Q := e_X5_copyRow_7 ⟨by decide, by decide, by decide, by decide, by decide, k⟩
theorem d_copyRow_8 (k : Q none (dh_c h 16 8 0 0 6)) : dh_C G mX5_copyRow [.ref 16, .ref 8] h Q := e_X5_copyRow_8 ⟨by decide, by decide, by decide, by decide, by decide, k⟩
theorem d_copyRow_9 (k : Q none (dh_c h 17 9 0 0 6)) : dh_C G mX5_copyRow [.ref 17, .ref 9] h Q := e_X5_copyRow_9 ⟨by decide, by decide, by decide, by decide, by decide, k⟩
theorem d_copyRow_10 (k : Q none (dh_c h 18 10 0 0 6)) : dh_C G mX5_copyRow [.ref 18, .ref 10] h Q := e_X5_copyRow_10 ⟨by decide, by decide, by decide, by decide, by decide, k⟩
theorem d_copyFrom (e0 : h 11 0 = 0 ∨ h 11 0 = 1) (k : ∀ h1, (∀ a, ¬ (3 ≤ a ∧ a ≤ 10) → h1 a = h a) → (∀ j, j ≤ 4 → h1 3 j = h 11 j) → (∀ r j, r < 7 → j < 6 → h1 (4 + r) j = h (12 + r) j) → Q none h1) : dh_C G mX5_copyFrom [.ref 3, .ref 11] h Q := by
  refine e_X5_copyFrom ⟨e0, d_copyRow_4 (w_X5_copyFrom_51 (d_copyRow_5 (w_X5_copyFrom_62 (d_copyRow_6 (w_X5_copyFrom_73 (d_copyRow_7 (w_X5_copyFrom_84 (d_copyRow_8 (w_X5_copyFrom_95 (d_copyRow_9 (w_X5_copyFrom_106 (d_copyRow_10 (w_X5_copyFrom_117 (k _ (fun a ha => ?_) (fun j hj => ?_) (fun r j hr hj => ?_)))))))))))))))⟩
  · rw [dh_c_n (by omega), dh_c_n (by omega), dh_c_n (by omega), dh_c_n (by omega), dh_c_n (by omega), dh_c_n (by omega), dh_c_n (by omega), dh_s_n (by omega), dh_s_n (by omega), dh_s_n (by omega), dh_s_n (by omega), dh_s_n (by omega)]
  · rw [dh_c_n (by decide), dh_c_n (by decide), dh_c_n (by decide), dh_c_n (by decide), dh_c_n (by decide), dh_c_n (by decide), dh_c_n (by decide)]
    rcases (show j = 0 ∨ j = 1 ∨ j = 2 ∨ j = 3 ∨ j = 4 by omega) with rfl | rfl | rfl | rfl | rfl <;> rfl
  · rcases (show r = 0 ∨ r = 1 ∨ r = 2 ∨ r = 3 ∨ r = 4 ∨ r = 5 ∨ r = 6 by omega) with rfl | rfl | rfl | rfl | rfl | rfl | rfl
    · show dh_c _ 12 4 0 0 6 4 j = h 12 j
      rw [dh_c_i, pk_cpy_in (by omega) (by omega), show 0 + (j - 0) = j by omega]
      rfl
    · show dh_c _ 13 5 0 0 6 5 j = h 13 j
      rw [dh_c_i, pk_cpy_in (by omega) (by omega), show 0 + (j - 0) = j by omega]
      rfl
    · show dh_c _ 14 6 0 0 6 6 j = h 14 j
      rw [dh_c_i, pk_cpy_in (by omega) (by omega), show 0 + (j - 0) = j by omega]
      rfl
    · show dh_c _ 15 7 0 0 6 7 j = h 15 j
      rw [dh_c_i, pk_cpy_in (by omega) (by omega), show 0 + (j - 0) = j by omega]
      rfl
    · show dh_c _ 16 8 0 0 6 8 j = h 16 j
      rw [dh_c_i, pk_cpy_in (by omega) (by omega), show 0 + (j - 0) = j by omega]
      rfl
    · show dh_c _ 17 9 0 0 6 9 j = h 17 j
      rw [dh_c_i, pk_cpy_in (by omega) (by omega), show 0 + (j - 0) = j by omega]
      rfl
    · show dh_c _ 18 10 0 0 6 10 j = h 18 j
      rw [dh_c_i, pk_cpy_in (by omega) (by omega), show 0 + (j - 0) = j by omega]
      rfl
theorem d_wreset (k : ∀ h1, fW h h1 → h1 19 1 = nI 0 → (∀ j, j < 6 → h1 20 j = -1 ∧ h1 21 j = nI 0 ∧ h1 22 j = nI 0 ∧ h1 23 j = nI 0 ∧ h1 24 j = nI 0) → Q none h1) : dh_C G mX8_reset [.ref 19] h Q := by
  refine e_X8_reset ?_
  refine dh_up (P := fun i => ∀ hh, fW h hh → hh 19 1 = nI 0 → (∀ j, j < i → hh 20 j = -1 ∧ hh 21 j = nI 0 ∧ hh 22 j = nI 0 ∧ hh 23 j = nI 0 ∧ hh 24 j = nI 0) → dh_J G mX8_reset 7 [some (.ref 19), some (.int (nI i))] [] hh Q) 6 ?_ ?_ 0 (by omega) _ (fW_s (fW_rf h) ⟨by decide, by decide⟩) (dh_s_eq _ _ _ _) (fun j hj => by omega)
  · intro hh f e1 e2
    exact w_X8_reset_7 ⟨fun _ => k hh f e1 e2, fun z => absurd (Int32.le_refl _) z⟩
  · intro i hi ih hh f e1 e2
    refine w_X8_reset_7 ?_
    simp (disch := omega) only [nI_leI, nI_clamp, nI_add]
    refine ⟨fun z => by omega, fun _ => ⟨vp_in_nI (by omega) (by omega), vp_in_nI (by omega) (by omega), vp_in_nI (by omega) (by omega), vp_in_nI (by omega) (by omega), vp_in_nI (by omega) (by omega), ih _ (fW_s (fW_s (fW_s (fW_s (fW_s f ⟨by decide, by decide⟩) ⟨by decide, by decide⟩) ⟨by decide, by decide⟩) ⟨by decide, by decide⟩) ⟨by decide, by decide⟩) e1 (fun j hj => ?_)⟩⟩
    show dh_s hh 20 i (-1) 20 j = -1 ∧ dh_s hh 21 i (nI 0) 21 j = nI 0 ∧ dh_s hh 22 i (nI 0) 22 j = nI 0 ∧ dh_s hh 23 i (nI 0) 23 j = nI 0 ∧ dh_s hh 24 i (nI 0) 24 j = nI 0
    by_cases z : j = i
    · subst z
      rw [dh_s_eq, dh_s_eq, dh_s_eq, dh_s_eq, dh_s_eq]
      exact ⟨rfl, rfl, rfl, rfl, rfl⟩
    · rw [dh_s_nk z, dh_s_nk z, dh_s_nk z, dh_s_nk z, dh_s_nk z]
      exact e2 j (by omega)
end RI2
