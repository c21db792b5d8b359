/-! the model's clauses, the model's isRead -/
section MCL
variable {G : dh_G} {h : dh_H} {Q : Option Value → dh_H → Prop} {t : Nat → Nat} {L : Nat} {cs : chL} {ds : dmL} {hd lo od : Nat}
/-- head and draft -/
def MS (h : dh_H) (hd lo od : Nat) (cs : chL) (ds : dmL) : Prop := h 61 9 = nI hd ∧ h 61 10 = nI lo ∧ h 61 11 = nI od ∧ DM h cs ds
theorem MS_fN {h h1 : dh_H} (m : MS h hd lo od cs ds) (f : fN h h1) : MS h1 hd lo od cs ds := by
  refine ⟨?_, ?_, ?_, DM_fN m.2.2.2 f⟩
  · rw [f.2 9 (by omega)]; exact m.1
  · rw [f.2 10 (by omega)]; exact m.2.1
  · rw [f.2 11 (by omega)]; exact m.2.2.1
theorem DM_addc {h h1 : dh_H} {a b : Nat} (d : DM h cs ds) (e12 : h1 61 12 = nI (cs.length + 1)) (e13 : h1 61 13 = h 61 13) (e64 : h1 64 = h 64) (ea : h1 63 (2 * cs.length) = nI a) (eb : h1 63 (2 * cs.length + 1) = nI b) (ej : ∀ j, j < 2 * cs.length → h1 63 j = h 63 j) : DM h1 (cs ++ [(a, b)]) ds := by
  refine ⟨by rw [List.length_append]; exact e12, by rw [e13]; exact d.2.1, fun c x hx => ?_, by rw [e64]; exact d.2.2.2⟩
  by_cases q : c < cs.length
  · rw [List.getElem?_append_left q] at hx
    rw [ej (2 * c) (by omega), ej (2 * c + 1) (by omega)]
    exact d.2.2.1 c x hx
  · rw [List.getElem?_append_right (by omega)] at hx
    have hl := (List.getElem?_eq_some_iff.mp hx).1
    have hl2 : c - cs.length < 1 := hl
    have : c = cs.length := by omega
    subst this
    rw [Nat.sub_self] at hx
    cases hx
    exact ⟨ea, eb⟩
theorem DM_addd {h h1 : dh_H} {a b c o : Nat} (d : DM h cs ds) (e13 : h1 61 13 = nI (ds.length + 1)) (e12 : h1 61 12 = h 61 12) (e63 : h1 63 = h 63) (ea : h1 64 (4 * ds.length) = nI a) (eb : h1 64 (4 * ds.length + 1) = nI b) (ec : h1 64 (4 * ds.length + 2) = nI c) (eo : h1 64 (4 * ds.length + 3) = nI o) (ej : ∀ j, j < 4 * ds.length → h1 64 j = h 64 j) : DM h1 cs (ds ++ [(a, b, c, o)]) := by
  refine ⟨by rw [e12]; exact d.1, by rw [List.length_append]; exact e13, by rw [e63]; exact d.2.2.1, fun k x hx => ?_⟩
  by_cases q : k < ds.length
  · rw [List.getElem?_append_left q] at hx
    rw [ej (4 * k) (by omega), ej (4 * k + 1) (by omega), ej (4 * k + 2) (by omega), ej (4 * k + 3) (by omega)]
    exact d.2.2.2 k x hx
  · rw [List.getElem?_append_right (by omega)] at hx
    have hl := (List.getElem?_eq_some_iff.mp hx).1
    have hl2 : k - ds.length < 1 := hl
    have : k = ds.length := by omega
    subst this
    rw [Nat.sub_self] at hx
    cases hx
    exact ⟨ea, eb, ec, eo⟩
theorem c_isHead {p : Nat} (c : MT t L h) (hp : p < L) (e2 : h 61 2 = nI (p + 1)) (et : t p = 110) (d : DM h cs ds)
    (kE : ∀ k a h1, HD t L p = .error (k, a) → fY h h1 → MF h1 k a → Q (some (.int (nI 0))) h1)
    (kO : ∀ lo od q h1, HD t L p = .ok (lo, od, q) → fY h h1 → h1 61 2 = nI q → MS h1 1 lo od cs ds → Q (some (.int (nI 1))) h1) : dh_C G mX10_isHead [.ref 61] h Q := by
  have hHD : HD t L p = (match NR t L (p + 1) 1 99 with
  | .error e => .error e
  | .ok a => match NR t L a.2 0 100 with
    | .error e => .error e
    | .ok b => match SC t L b.2 with
      | .error e => .error e
      | .ok q => .ok (a.1, b.1, q)) := by unfold HD; rw [if_pos et]; rfl
  refine e_X10_isHead (c_isNumber c (by omega) e2 (by decide) (by decide) (fun k a h1 eN f F => w_X10_isHead_7 ⟨fun z => absurd rfl z, fun _ => kE k a h1 (by rw [hHD, eN]) (fY_N f) F⟩) (fun v q h1 eN f e7 g2 g5 => w_X10_isHead_7 ⟨fun _ => ?_, fun z => absurd z (by decide)⟩))
  have pN := NR_pos (show p + 1 ≤ L by omega) eN
  have f1 : fY h (dh_s h1 61 10 (h1 61 5)) := fY_61 (fY_N f) ⟨by decide, by decide⟩
  refine c_isNumber (MT_fY c f1) pN.2.1 g2 (by decide) (by decide) (fun k a h2 eN2 f2 F => w_X10_isHead_27 ⟨fun z => absurd rfl z, fun _ => kE k a h2 (by rw [hHD, eN]; dsimp only; rw [eN2]) (fY_tr f1 (fY_N f2)) F⟩) (fun v2 q2 h2 eN2 f2 e72 g22 g52 => w_X10_isHead_27 ⟨fun _ => ?_, fun z => absurd z (by decide)⟩)
  have pN2 := NR_pos pN.2.1 eN2
  have f3 : fY h (dh_s (dh_s h2 61 11 (h2 61 5)) 61 9 (nI 1)) := fY_61 (fY_61 (fY_tr f1 (fY_N f2)) ⟨by decide, by decide⟩) ⟨by decide, by decide⟩
  have d2 : DM h2 cs ds := DM_fN (h := dh_s h1 61 10 (h1 61 5)) (show DM h1 cs ds from DM_fN d f) f2
  have m3 : MS (dh_s (dh_s h2 61 11 (h2 61 5)) 61 9 (nI 1)) 1 v v2 cs ds := by
    refine ⟨rfl, ?_, ?_, d2⟩
    · show h2 61 10 = nI v
      rw [f2.2 10 (by omega), dh_s_eq]
      exact g5
    · exact g52
  refine c_isEnd (MT_fY c f3) pN2.2.1 g22 (fun k a h3 eS f4 F => w_X10_isHead_49 ⟨Or.inl rfl, kE k a h3 (by rw [hHD, eN]; dsimp only; rw [eN2]; dsimp only; rw [eS]) (fY_tr f3 (fY_N f4)) F⟩) (fun q3 h3 eS f4 e73 g23 => w_X10_isHead_49 ⟨Or.inr rfl, kO v v2 q3 h3 (by rw [hHD, eN]; dsimp only; rw [eN2]; dsimp only; rw [eS]) (fY_tr f3 (fY_N f4)) g23 (MS_fN m3 f4)⟩)
theorem c_isChildItem {p : Nat} (c : MT t L h) (hp : p < L) (e2 : h 61 2 = nI (p + 1)) (e3 : h 61 3 = nI p) (hV : VD cs ds) (m : MS h hd lo od cs ds)
    (kE : ∀ k a h1, CLc t L p cs ds = .error (k, a) → fY h h1 → MF h1 k a → Q (some (.int (nI 0))) h1)
    (kO : ∀ q cs' ds' h1, CLc t L p cs ds = .ok (q, cs', ds') → fY h h1 → h1 61 2 = nI q → MS h1 hd lo od cs' ds' → Q (some (.int (nI 1))) h1) : dh_C G mX10_isChildItem [.ref 61] h Q := by
  have hl := hV.1
  refine e_X10_isChildItem ?_
  rw [m.2.2.2.1, nI_eq (by omega) (by decide)]
  refine ⟨fun q6 => ?_, fun q6 => c_fails (w_X10_isChildItem_14 ⟨Or.inl rfl, kE 3 p _ (by unfold CLc; rw [if_pos q6]) (fY_61 (fY_61 (fY_N (fN_rf h)) ⟨by decide, by decide⟩) ⟨by decide, by decide⟩) (MF_s e3 (by decide))⟩)⟩
  have hCL : CLc t L p cs ds = match NR t L (p + 1) 0 3 with
  | .error e => .error e
  | .ok a => match NR t L a.2 0 60 with
    | .error e => .error e
    | .ok b => match SC t L b.2 with
      | .error e => .error e
      | .ok q => .ok (q, cs ++ [(a.1, b.1)], ds) := by unfold CLc; rw [if_neg q6]; rfl
  refine c_isNumber c (by omega) e2 (by decide) (by decide) (fun k a h1 eN f F => w_X10_isChildItem_21 ⟨fun z => absurd rfl z, fun _ => kE k a h1 (by rw [hCL, eN]) (fY_N f) F⟩) (fun v q h1 eN f e7 g2 g5 => w_X10_isChildItem_21 ⟨fun _ => ?_, fun z => absurd z (by decide)⟩)
  have pN := NR_pos (show p + 1 ≤ L by omega) eN
  have m1 := MS_fN m f
  rw [m1.2.2.2.1, pk_mul, nI_clamp (by omega), g5]
  refine ⟨vp_in_nI (by omega) (by omega), ?_⟩
  generalize eh2 : dh_s h1 63 (2 * cs.length) (nI v) = h2
  have f1 : fY h h2 := by subst eh2; exact fY_r (fY_N f) (Or.inl rfl)
  have b61 : h2 61 = h1 61 := by subst eh2; exact dh_s_n (by decide)
  have b64 : h2 64 = h 64 := by subst eh2; rw [dh_s_n (by decide)]; exact f.1 64 (by decide)
  have b63 : h2 63 (2 * cs.length) = nI v := by subst eh2; exact dh_s_eq _ _ _ _
  have b63j : ∀ j, j < 2 * cs.length → h2 63 j = h 63 j := fun j hj => by subst eh2; rw [dh_s_nk (by omega), f.1 63 (by decide)]
  clear eh2
  refine c_isNumber (MT_fY c f1) pN.2.1 (by rw [b61]; exact g2) (by decide) (by decide) (fun k a h3 eN2 f2 F => w_X10_isChildItem_48 ⟨fun z => absurd rfl z, fun _ => kE k a h3 (by rw [hCL, eN]; dsimp only; rw [eN2]) (fY_tr f1 (fY_N f2)) F⟩) (fun v2 q2 h3 eN2 f2 e72 g22 g52 => w_X10_isChildItem_48 ⟨fun _ => ?_, fun z => absurd z (by decide)⟩)
  have pN2 := NR_pos pN.2.1 eN2
  have e12 : h3 61 12 = nI cs.length := by rw [f2.2 12 (by omega), b61]; exact m1.2.2.2.1
  rw [e12, pk_mul, nI_add, nI_add, nI_clamp (by omega), g52]
  refine ⟨vp_in_nI (by omega) (by omega), ?_⟩
  have f3 : fY h (dh_s (dh_s h3 63 (2 * cs.length + 1) (nI v2)) 61 12 (nI (cs.length + 1))) := fY_61 (fY_r (fY_tr f1 (fY_N f2)) (Or.inl rfl)) ⟨by decide, by decide⟩
  have m3 : MS (dh_s (dh_s h3 63 (2 * cs.length + 1) (nI v2)) 61 12 (nI (cs.length + 1))) hd lo od (cs ++ [(v, v2)]) ds := by
    refine ⟨?_, ?_, ?_, DM_addc m.2.2.2 (dh_s_eq _ _ _ _) ?_ ?_ ?_ ?_ ?_⟩
    · show h3 61 9 = _
      rw [f2.2 9 (by omega), b61]; exact m1.1
    · show h3 61 10 = _
      rw [f2.2 10 (by omega), b61]; exact m1.2.1
    · show h3 61 11 = _
      rw [f2.2 11 (by omega), b61]; exact m1.2.2.1
    · show h3 61 13 = _
      rw [f2.2 13 (by omega), b61, f.2 13 (by omega)]
    · show h3 64 = _
      rw [f2.1 64 (by decide)]; exact b64
    · show dh_s h3 63 (2 * cs.length + 1) (nI v2) 63 (2 * cs.length) = _
      rw [dh_s_nk (by omega), f2.1 63 (by decide)]; exact b63
    · show dh_s h3 63 (2 * cs.length + 1) (nI v2) 63 (2 * cs.length + 1) = _
      exact dh_s_eq _ _ _ _
    · intro j hj
      show dh_s h3 63 (2 * cs.length + 1) (nI v2) 63 j = _
      rw [dh_s_nk (by omega), f2.1 63 (by decide)]; exact b63j j hj
  refine c_isEnd (MT_fY c f3) pN2.2.1 g22 (fun k a h4 eS f4 F => w_X10_isChildItem_84 ⟨Or.inl rfl, kE k a h4 (by rw [hCL, eN]; dsimp only; rw [eN2]; dsimp only; rw [eS]) (fY_tr f3 (fY_N f4)) F⟩) (fun q3 h4 eS f4 e73 g23 => w_X10_isChildItem_84 ⟨Or.inr rfl, kO q3 _ _ h4 (by rw [hCL, eN]; dsimp only; rw [eN2]; dsimp only; rw [eS]) (fY_tr f3 (fY_N f4)) g23 (MS_fN m3 f4)⟩)
theorem DM_ow {k : Nat} (d : DM h cs ds) (hk : k < ds.length) : h 64 (4 * k + 3) = nI (ow ds k) := by
  have := (d.2.2.2 k ds[k] (List.getElem?_eq_getElem hk)).2.2.2
  rw [this]
  unfold ow
  rw [List.getD_eq_getElem?_getD, List.getElem?_eq_getElem hk]
  rfl
theorem ow_le {k : Nat} (hV : VD cs ds) (hk : k < ds.length) : ow ds k = 9 ∨ ow ds k < cs.length := by
  have := hV.2.2.2 ds[k] (List.getElem_mem hk)
  unfold ow
  rw [List.getD_eq_getElem?_getD, List.getElem?_eq_getElem hk]
  exact this.2.2.2
theorem c_isWhose {i : Nat} (c : MT t L h) (hi : i ≤ L) (e : h 61 2 = nI i) (hV : VD cs ds) (d12 : h 61 12 = nI cs.length) (d13 : h 61 13 = nI ds.length) (dw : ∀ k, k < ds.length → h 64 (4 * k + 3) = nI (ow ds k))
    (kE : ∀ k a h1, OW t L i cs ds = .error (k, a) → fN h h1 → MF h1 k a → Q (some (.int (nI 0))) h1)
    (kO : ∀ v p h1, OW t L i cs ds = .ok (v, p) → fN h h1 → h1 61 2 = nI p → h1 61 5 = nI v → Q (some (.int (nI 1))) h1) : dh_C G mX10_isWhose [.ref 61] h Q := by
  have hL := c.2.1
  have hs := sk_ge t hi
  have hv1 := hV.1
  have hv2 := hV.2.1
  refine e_X10_isWhose (c_nextToken c hi e (fun h1 f e7 T => w_X10_isWhose_4 ?_))
  obtain ⟨t3, tL, tf, tn⟩ := T
  have fFail : ∀ k, fN h (dh_s (dh_s h1 61 7 (h1 61 3)) 61 8 (nI k)) := fun k => fN_s (fN_s f ⟨by decide, by decide⟩) ⟨by decide, by decide⟩
  have not1 : ¬ h1 61 4 = -1 → ¬ (sk t L i < L ∧ fg (t (sk t L i)) = true) := fun z y => z (tf y.1 y.2).1
  refine ⟨fun q => ?_, fun q => c_fails (w_X10_isWhose_17 ⟨Or.inl rfl, kE 1 (sk t L i) _ ?_ (fFail 1) (MF_s t3 (by decide))⟩)⟩
  · have hfig : sk t L i < L ∧ fg (t (sk t L i)) = true := by
      by_cases z : sk t L i < L
      · refine ⟨z, ?_⟩
        cases z2 : fg (t (sk t L i)) with
        | true => rfl
        | false =>
          have := (tn z z2).1
          rw [q] at this
          exact absurd this (m1_ne_nI (by have := (c.2.2 _ z).2; omega))
      · have := (tL (by omega)).1
        rw [q] at this
        exact absurd this (by decide)
    obtain ⟨u4, u5, u6, u2⟩ := tf hfig.1 hfig.2
    have hok := nmV_ok t (L - sk t L i) (sk t L i) 0 0 (Or.inl ⟨rfl, rfl⟩)
    have hNR : NR t L i 0 999 = if 3 < (nm t L (sk t L i)).2.1 ∨ (nm t L (sk t L i)).1 < 0 ∨ 999 < (nm t L (sk t L i)).1 then .error (2, sk t L i) else .ok ((nm t L (sk t L i)).1, (nm t L (sk t L i)).2.2) := by
      unfold NR
      rw [if_pos hfig]
    unfold nm at u5 u6 u2 hNR
    generalize nmV t (L - sk t L i) (sk t L i) 0 0 = r at u5 u6 u2 hNR hok
    obtain ⟨v, fi, p⟩ := r
    dsimp only at u5 u6 u2 hNR hok
    have hv : v ≤ 999 := by have := hok.1; unfold nb3 at this; omega
    have g12 : h1 61 12 = nI cs.length := by rw [f.2 12 (by omega)]; exact d12
    have g13 : h1 61 13 = nI ds.length := by rw [f.2 13 (by omega)]; exact d13
    have gw : ∀ k, k < ds.length → h1 64 (4 * k + 3) = nI (ow ds k) := fun k hk => by rw [f.1 64 (by decide)]; exact dw k hk
    rw [u5, u6, g12]
    simp (disch := omega) only [nI_ltI, nI_eq]
    have bad : OW t L i cs ds = .error (2, sk t L i) → dh_C G mX10_fails [.ref 61, .int (nI 2)] h1 (fun v h1 => dh_J G mX10_isWhose 51 [none, none] (v.toList ++ []) h1 Q) := fun hb => c_fails (w_X10_isWhose_51 ⟨Or.inl rfl, kE 2 (sk t L i) _ hb (fFail 2) (MF_s t3 (by decide))⟩)
    refine ⟨fun z => bad ?_, fun z => ?_⟩
    · unfold OW
      rw [hNR, if_pos (Or.inl z)]
    have hNR2 : NR t L i 0 999 = .ok (v, p) := by rw [hNR, if_neg (by omega)]
    have hOW : OW t L i cs ds = if v = 9 then .ok (v, p) else if cs.length ≤ v then .error (2, sk t L i) else if ownI ds v = -1 then .ok (v, p) else .error (4, sk t L i) := by
      unfold OW
      rw [hNR2]
    -- the loop over the dummies
    have loop : (v = 9 ∨ v < cs.length) → dh_J G mX10_isWhose 54 [some (.ref 61), some (.int (nI 0))] [] h1 Q := by
      intro hv9
      refine dh_up (P := fun d => (∀ j, j < d → v = 9 ∨ ¬ ow ds j = v) → dh_J G mX10_isWhose 54 [some (.ref 61), some (.int (nI d))] [] h1 Q) ds.length ?_ ?_ 0 (by omega) (fun j hj => by omega)
      · intro hn
        refine w_X10_isWhose_54 ?_
        rw [g13]
        refine ⟨fun _ => kO v p h1 ?_ f u2 u5, fun z => absurd (Int32.le_refl _) z⟩
        rw [hOW]
        by_cases z9 : v = 9
        · rw [if_pos z9]
        · rw [if_neg z9, if_neg (by omega), if_pos]
          refine laF_none (fun j hj => ?_)
          rcases hn j hj with y | y
          · exact absurd y z9
          · simpa using y
      · intro d hd ih hn
        have ho := ow_le hV hd
        refine w_X10_isWhose_54 ?_
        rw [g13, u5, pk_mul, nI_add, nI_add, nI_clamp (by omega), gw d hd]
        simp (disch := omega) only [nI_leI, nI_eq]
        refine ⟨fun z => by omega, fun _ => ⟨fun z => ih (fun j hj => Or.inl z), fun z => ⟨vp_in_nI (by omega) (by omega), fun y => ih (fun j hj => ?_), fun y => c_fails (w_X10_isWhose_93 ⟨Or.inl rfl, kE 4 (sk t L i) _ ?_ (fFail 4) (MF_s t3 (by decide))⟩)⟩⟩⟩
        · by_cases ej : j = d
          · subst ej; exact Or.inr y
          · exact hn j (by omega)
        · rw [hOW, if_neg z, if_neg (by omega), if_neg]
          intro hm
          have := laF_m1 (by omega) hm d hd
          simp [y] at this
    refine ⟨fun z9 => loop (Or.inl z9), fun z9 => ⟨fun zl => loop (Or.inr zl), fun zl => bad ?_⟩⟩
    rw [hOW, if_neg z9, if_pos (by omega)]
  · unfold OW NR
    rw [if_neg (not1 q)]
end MCL
