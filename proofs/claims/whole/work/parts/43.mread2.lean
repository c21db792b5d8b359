/-! the model's dummy clause, clause and whole text -/
section MCD
variable {G : dh_G} {h : dh_H} {Q : Option Value → dh_H → Prop} {t : Nat → Nat} {L : Nat} {cs : chL} {ds : dmL} {hd lo od : Nat}
/-- between the numbers of a dummy's clause -/
def pD (n : Nat) (h h1 : dh_H) : Prop := fY h h1 ∧ (∀ j, 9 ≤ j → h1 61 j = h 61 j) ∧ h1 63 = h 63 ∧ ∀ j, j < 4 * n → h1 64 j = h 64 j
theorem pD_rf (n : Nat) (h : dh_H) : pD n h h := ⟨fY_N (fN_rf h), fun _ _ => rfl, rfl, fun _ _ => rfl⟩
theorem pD_N {n : Nat} {h h1 h2 : dh_H} (p : pD n h h1) (f : fN h1 h2) : pD n h h2 := ⟨fY_tr p.1 (fY_N f), fun j hj => by rw [f.2 j (by omega)]; exact p.2.1 j hj, by rw [f.1 63 (by decide)]; exact p.2.2.1, fun j hj => by rw [f.1 64 (by decide)]; exact p.2.2.2 j hj⟩
theorem pD_s {n k : Nat} {x : Int32} {h h1 : dh_H} (p : pD n h h1) (hk : 4 * n ≤ k) : pD n h (dh_s h1 64 k x) := ⟨fY_r p.1 (Or.inr rfl), fun j hj => by rw [dh_s_n (by decide)]; exact p.2.1 j hj, by rw [dh_s_n (by decide)]; exact p.2.2.1, fun j hj => by rw [dh_s_nk (by omega)]; exact p.2.2.2 j hj⟩
theorem c_isDummyItem {p : Nat} (c : MT t L h) (hp : p < L) (e2 : h 61 2 = nI (p + 1)) (e3 : h 61 3 = nI p) (hV : VD cs ds) (m : MS h hd lo od cs ds)
    (kE : ∀ k a h1, CLd t L p cs ds = .error (k, a) → fY h h1 → MF h1 k a → Q (some (.int (nI 0))) h1)
    (kO : ∀ q cs' ds' h1, CLd t L p cs ds = .ok (q, cs', ds') → fY h h1 → h1 61 2 = nI q → MS h1 hd lo od cs' ds' → Q (some (.int (nI 1))) h1) : dh_C G mX10_isDummyItem [.ref 61] h Q := by
  have hl := hV.2.1
  refine e_X10_isDummyItem ?_
  rw [m.2.2.2.2.1, pk_mul, nI_eq (by omega) (by decide)]
  refine ⟨fun q6 => ?_, fun q6 => c_fails (w_X10_isDummyItem_14 ⟨Or.inl rfl, kE 3 p _ (by unfold CLd; rw [if_pos q6]) (fY_61 (fY_61 (fY_N (fN_rf h)) ⟨by decide, by decide⟩) ⟨by decide, by decide⟩) (MF_s e3 (by decide))⟩)⟩
  have hCL : CLd t L p cs ds = match NR t L (p + 1) 0 9 with
  | .error e => .error e
  | .ok a => match NR t L a.2 0 3 with
    | .error e => .error e
    | .ok b => match NR t L b.2 0 30 with
      | .error e => .error e
      | .ok c => match OW t L c.2 cs ds with
        | .error e => .error e
        | .ok o => match SC t L o.2 with
          | .error e => .error e
          | .ok q => .ok (q, cs, ds ++ [(a.1, b.1, c.1, o.1)]) := by unfold CLd; rw [if_neg q6]; rfl
  have hn : ds.length < 6 := by omega
  -- the colour
  refine w_X10_isDummyItem_24 ⟨fun z => absurd z (by decide), fun _ => ⟨fun z => absurd rfl z, fun _ => ?_⟩⟩
  refine c_isNumber c (by omega) e2 (by decide) (by decide) (fun k a h1 eN f F => w_X10_isDummyItem_54 ⟨fun z => absurd rfl z, fun _ => kE k a h1 (by rw [hCL, eN]) (fY_N f) F⟩) (fun v1 q1 h1 eN1 f1 _ g2 g5 => w_X10_isDummyItem_54 ⟨fun _ => ?_, fun z => absurd z (by decide)⟩)
  have pN1 := NR_pos (show p + 1 ≤ L by omega) eN1
  rw [nI_add, nI_add, nI_clamp (by omega), g5]
  refine ⟨vp_in_nI (by omega) (by omega), ?_⟩
  have p1 : pD ds.length h (dh_s h1 64 (4 * ds.length + 0) (nI v1)) := pD_s (pD_N (pD_rf _ h) f1) (by omega)
  generalize eh : dh_s h1 64 (4 * ds.length + 0) (nI v1) = ha at p1
  have a2 : ha 61 2 = nI q1 := by subst eh; exact g2
  have a0 : ha 64 (4 * ds.length) = nI v1 := by subst eh; exact dh_s_eq _ _ _ _
  clear eh
  -- the side
  refine w_X10_isDummyItem_24 ⟨fun z => absurd z (by decide), fun _ => ⟨fun _ => ⟨fun z => absurd rfl z, fun _ => ?_⟩, fun z => absurd z (by decide)⟩⟩
  refine c_isNumber (MT_fY c p1.1) pN1.2.1 a2 (by decide) (by decide) (fun k a h1 eN f F => w_X10_isDummyItem_54 ⟨fun z => absurd rfl z, fun _ => kE k a h1 (by rw [hCL, eN1]; dsimp only; rw [eN]) (fY_tr p1.1 (fY_N f)) F⟩) (fun v2 q2 h2 eN2 f2 _ g22 g52 => w_X10_isDummyItem_54 ⟨fun _ => ?_, fun z => absurd z (by decide)⟩)
  have pN2 := NR_pos pN1.2.1 eN2
  rw [nI_add, nI_add, nI_clamp (by omega), g52]
  refine ⟨vp_in_nI (by omega) (by omega), ?_⟩
  have p2 : pD ds.length h (dh_s h2 64 (4 * ds.length + (0 + 1)) (nI v2)) := pD_s (pD_N p1 f2) (by omega)
  generalize eh : dh_s h2 64 (4 * ds.length + (0 + 1)) (nI v2) = hb at p2
  have b2 : hb 61 2 = nI q2 := by subst eh; exact g22
  have b0 : hb 64 (4 * ds.length) = nI v1 := by subst eh; rw [dh_s_nk (by omega), f2.1 64 (by decide)]; exact a0
  have b1 : hb 64 (4 * ds.length + 1) = nI v2 := by subst eh; exact dh_s_eq _ _ _ _
  clear eh
  -- how long the mark lasts
  refine w_X10_isDummyItem_24 ⟨fun z => absurd z (by decide), fun _ => ⟨fun _ => ⟨fun _ => ?_, fun z => absurd z (by decide)⟩, fun z => absurd z (by decide)⟩⟩
  refine c_isNumber (MT_fY c p2.1) pN2.2.1 b2 (by decide) (by decide) (fun k a h1 eN f F => w_X10_isDummyItem_54 ⟨fun z => absurd rfl z, fun _ => kE k a h1 (by rw [hCL, eN1]; dsimp only; rw [eN2]; dsimp only; rw [eN]) (fY_tr p2.1 (fY_N f)) F⟩) (fun v3 q3 h3 eN3 f3 _ g23 g53 => w_X10_isDummyItem_54 ⟨fun _ => ?_, fun z => absurd z (by decide)⟩)
  have pN3 := NR_pos pN2.2.1 eN3
  rw [nI_add, nI_add, nI_clamp (by omega), g53]
  refine ⟨vp_in_nI (by omega) (by omega), ?_⟩
  have p3 : pD ds.length h (dh_s h3 64 (4 * ds.length + (0 + 1 + 1)) (nI v3)) := pD_s (pD_N p2 f3) (by omega)
  generalize eh : dh_s h3 64 (4 * ds.length + (0 + 1 + 1)) (nI v3) = hc at p3
  have c2 : hc 61 2 = nI q3 := by subst eh; exact g23
  have c0 : hc 64 (4 * ds.length) = nI v1 := by subst eh; rw [dh_s_nk (by omega), f3.1 64 (by decide)]; exact b0
  have c1 : hc 64 (4 * ds.length + 1) = nI v2 := by subst eh; rw [dh_s_nk (by omega), f3.1 64 (by decide)]; exact b1
  have c22 : hc 64 (4 * ds.length + 2) = nI v3 := by subst eh; exact dh_s_eq _ _ _ _
  clear eh
  -- whose
  refine w_X10_isDummyItem_24 ⟨fun _ => ?_, fun z => absurd (by decide) z⟩
  refine c_isWhose (MT_fY c p3.1) pN3.2.1 c2 hV (by rw [p3.2.1 12 (by omega)]; exact m.2.2.2.1) (by rw [p3.2.1 13 (by omega)]; exact m.2.2.2.2.1) (fun k hk => by rw [p3.2.2.2 _ (by omega)]; exact DM_ow m.2.2.2 hk) (fun k a h1 eN f F => w_X10_isDummyItem_81 ⟨fun z => absurd rfl z, fun _ => kE k a h1 (by rw [hCL, eN1]; dsimp only; rw [eN2]; dsimp only; rw [eN3]; dsimp only; rw [eN]) (fY_tr p3.1 (fY_N f)) F⟩) (fun o q4 h4 eN4 f4 g24 g54 => w_X10_isDummyItem_81 ⟨fun _ => ?_, fun z => absurd z (by decide)⟩)
  have pN4 := OW_pos pN3.2.1 eN4
  dsimp only at pN4
  have p4' := pD_N p3 f4
  rw [p4'.2.1 13 (by omega), m.2.2.2.2.1, nI_add, nI_add, nI_clamp (by omega), g54]
  refine ⟨vp_in_nI (by omega) (by omega), ?_⟩
  have p4 : pD ds.length h (dh_s h4 64 (4 * ds.length + 3) (nI o)) := pD_s p4' (by omega)
  have f5 : fY h (dh_s (dh_s h4 64 (4 * ds.length + 3) (nI o)) 61 13 (nI (ds.length + 1))) := fY_61 p4.1 ⟨by decide, by decide⟩
  have m5 : MS (dh_s (dh_s h4 64 (4 * ds.length + 3) (nI o)) 61 13 (nI (ds.length + 1))) hd lo od cs (ds ++ [(v1, v2, v3, o)]) := by
    refine ⟨?_, ?_, ?_, DM_addd m.2.2.2 (dh_s_eq _ _ _ _) ?_ ?_ ?_ ?_ ?_ ?_ ?_⟩
    · show h4 61 9 = _
      rw [p4'.2.1 9 (by omega)]; exact m.1
    · show h4 61 10 = _
      rw [p4'.2.1 10 (by omega)]; exact m.2.1
    · show h4 61 11 = _
      rw [p4'.2.1 11 (by omega)]; exact m.2.2.1
    · show h4 61 12 = _
      exact p4'.2.1 12 (by omega)
    · show h4 63 = _
      exact p4'.2.2.1
    · show dh_s h4 64 (4 * ds.length + 3) (nI o) 64 (4 * ds.length) = _
      rw [dh_s_nk (by omega), f4.1 64 (by decide)]; exact c0
    · show dh_s h4 64 (4 * ds.length + 3) (nI o) 64 (4 * ds.length + 1) = _
      rw [dh_s_nk (by omega), f4.1 64 (by decide)]; exact c1
    · show dh_s h4 64 (4 * ds.length + 3) (nI o) 64 (4 * ds.length + 2) = _
      rw [dh_s_nk (by omega), f4.1 64 (by decide)]; exact c22
    · show dh_s h4 64 (4 * ds.length + 3) (nI o) 64 (4 * ds.length + 3) = _
      exact dh_s_eq _ _ _ _
    · intro j hj
      show dh_s h4 64 (4 * ds.length + 3) (nI o) 64 j = _
      exact p4.2.2.2 j hj
  refine c_isEnd (MT_fY c f5) pN4.2.1 g24 (fun k a h5 eS f6 F => w_X10_isDummyItem_112 ⟨Or.inl rfl, kE k a h5 (by rw [hCL, eN1]; dsimp only; rw [eN2]; dsimp only; rw [eN3]; dsimp only; rw [eN4]; dsimp only; rw [eS]) (fY_tr f5 (fY_N f6)) F⟩) (fun q5 h5 eS f6 _ g25 => w_X10_isDummyItem_112 ⟨Or.inr rfl, kO q5 _ _ h5 (by rw [hCL, eN1]; dsimp only; rw [eN2]; dsimp only; rw [eN3]; dsimp only; rw [eN4]; dsimp only; rw [eS]) (fY_tr f5 (fY_N f6)) g25 (MS_fN m5 f6)⟩)
theorem TK_is {i x : Nat} (c : MT t L h) (T : TK t L i h) (hx : x ≤ 255) (nf : fg x = false) (hi : i ≤ L) (hs : sk t L i < L) : h 61 4 = nI x ↔ t (sk t L i) = x := by
  have hL := c.2.1
  obtain ⟨t3, tL, tf, tn⟩ := T
  constructor
  · intro q
    cases z2 : fg (t (sk t L i)) with
    | true =>
      have := (tf hs z2).1
      rw [q] at this
      exact absurd this (nI_ne_m1 (by omega))
    | false =>
      have := (tn hs z2).1
      rw [q, nI_eq (by omega) (by have := (c.2.2 _ hs).2; omega)] at this
      exact this.symm
  · intro q
    rw [(tn hs (by rw [q]; exact nf)).1, q]
/-- a clause, behind the head -/
theorem c_isClause {i : Nat} (c : MT t L h) (hi : i ≤ L) (hs : sk t L i < L) (T : TK t L i h) (hV : VD cs ds) (m : MS h 1 lo od cs ds)
    (kE : ∀ k a h1, CL t L (sk t L i) cs ds = .error (k, a) → fY h h1 → MF h1 k a → Q (some (.int (nI 0))) h1)
    (kO : ∀ q cs' ds' h1, CL t L (sk t L i) cs ds = .ok (q, cs', ds') → fY h h1 → h1 61 2 = nI q → MS h1 1 lo od cs' ds' → Q (some (.int (nI 1))) h1) : dh_C G mX10_isClause [.ref 61] h Q := by
  have i110 := TK_is (x := 110) c T (by decide) (by decide) hi hs
  have i99 := TK_is (x := 99) c T (by decide) (by decide) hi hs
  have i100 := TK_is (x := 100) c T (by decide) (by decide) hi hs
  obtain ⟨t3, tL, tf, tn⟩ := T
  have ff : ∀ k, fY h (dh_s (dh_s h 61 7 (h 61 3)) 61 8 (nI k)) := fun k => fY_61 (fY_61 (fY_N (fN_rf h)) ⟨by decide, by decide⟩) ⟨by decide, by decide⟩
  refine e_X10_isClause ?_
  rw [i110, i99, i100, m.1]
  refine ⟨fun z => ⟨fun _ => ⟨fun z2 => ⟨fun z3 => c_fails (w_X10_isClause_79 ⟨Or.inl rfl, kE 1 _ _ ?_ (ff 1) (MF_s t3 (by decide))⟩), fun z3 => ?_⟩, fun z2 => ?_⟩, fun y => absurd y (by decide)⟩, fun z => ⟨fun y => absurd y (by decide), fun _ => c_fails (w_X10_isClause_21 (w_X10_isClause_28 ⟨Or.inl rfl, kE 3 _ _ ?_ (ff 3) (MF_s t3 (by decide))⟩))⟩⟩
  · unfold CL
    rw [if_neg z2, if_neg z3, if_neg z]
  · have e : CL t L (sk t L i) cs ds = CLd t L (sk t L i) cs ds := by unfold CL; rw [if_neg z2, if_pos z3]
    rw [e] at kE kO
    exact c_isDummyItem c hs (tn hs (by rw [z3]; decide)).2 t3 hV m (fun k a h1 e f F => w_X10_isClause_71 (w_X10_isClause_79 ⟨Or.inl rfl, kE k a h1 e f F⟩)) (fun q cs' ds' h1 e f g M => w_X10_isClause_71 (w_X10_isClause_79 ⟨Or.inr rfl, kO q cs' ds' h1 e f g M⟩))
  · have e : CL t L (sk t L i) cs ds = CLc t L (sk t L i) cs ds := by unfold CL; rw [if_pos z2]
    rw [e] at kE kO
    exact c_isChildItem c hs (tn hs (by rw [z2]; decide)).2 t3 hV m (fun k a h1 e f F => w_X10_isClause_55 (w_X10_isClause_79 ⟨Or.inl rfl, kE k a h1 e f F⟩)) (fun q cs' ds' h1 e f g M => w_X10_isClause_55 (w_X10_isClause_79 ⟨Or.inr rfl, kO q cs' ds' h1 e f g M⟩))
  · unfold CL
    rw [if_neg (by omega), if_neg (by omega), if_pos z]
/-- the first clause -/
theorem c_isClause1 {i : Nat} (c : MT t L h) (hi : i ≤ L) (hs : sk t L i < L) (T : TK t L i h) (m : MS h 0 lo od cs ds)
    (kE : ∀ k a h1, HD t L (sk t L i) = .error (k, a) → fY h h1 → MF h1 k a → Q (some (.int (nI 0))) h1)
    (kO : ∀ lo od q h1, HD t L (sk t L i) = .ok (lo, od, q) → fY h h1 → h1 61 2 = nI q → MS h1 1 lo od cs ds → Q (some (.int (nI 1))) h1) : dh_C G mX10_isClause [.ref 61] h Q := by
  have i110 := TK_is (x := 110) c T (by decide) (by decide) hi hs
  obtain ⟨t3, tL, tf, tn⟩ := T
  have ff : ∀ k, fY h (dh_s (dh_s h 61 7 (h 61 3)) 61 8 (nI k)) := fun k => fY_61 (fY_61 (fY_N (fN_rf h)) ⟨by decide, by decide⟩) ⟨by decide, by decide⟩
  refine e_X10_isClause ?_
  rw [i110, m.1]
  refine ⟨fun z => ⟨fun y => absurd rfl y, fun _ => c_fails (w_X10_isClause_41 ⟨Or.inl rfl, kE 1 _ _ ?_ (ff 1) (MF_s t3 (by decide))⟩)⟩, fun z => ⟨fun _ => ?_, fun y => absurd rfl y⟩⟩
  · unfold HD
    rw [if_neg z]
  · exact c_isHead c hs (tn hs (by rw [z]; decide)).2 z m.2.2.2 (fun k a h1 e f F => w_X10_isClause_28 ⟨Or.inl rfl, kE k a h1 e f F⟩) (fun lo od q h1 e f g M => w_X10_isClause_28 ⟨Or.inr rfl, kO lo od q h1 e f g M⟩)
theorem TK_2 {i : Nat} (c : MT t L h) (T : TK t L i h) (hi : i ≤ L) : h 61 4 = -2 ↔ ¬ sk t L i < L := by
  have hs := sk_ge t hi
  have hL := c.2.1
  constructor
  · intro q z
    cases z2 : fg (t (sk t L i)) with
    | true =>
      have := (T.2.2.1 z z2).1
      rw [q] at this
      exact absurd this (by decide)
    | false =>
      have := (T.2.2.2 z z2).1
      rw [q] at this
      have hc := (c.2.2 _ z).2
      have h1 := nI_toInt (show t (sk t L i) < 2 ^ 31 by omega)
      rw [← this] at h1
      have h2 : (-2 : Int32).toInt = -2 := by decide
      omega
  · intro z
    exact (T.2.1 (by omega)).1
theorem c_isRead (c : MT t L h)
    (kE : ∀ k a h1, PT t L = .error (k, a) → fY h h1 → MF h1 k a → Q (some (.int (nI 0))) h1)
    (kO : ∀ r h1, PT t L = .ok r → fY h h1 → MS h1 r.1 r.2.1 r.2.2.1 r.2.2.2.1 r.2.2.2.2 → Q (some (.int (nI 1))) h1) : dh_C G mX10_isRead [.ref 61] h Q := by
  have hL := c.2.1
  refine e_X10_isRead ?_
  generalize eh0 : dh_s (dh_s (dh_s (dh_s (dh_s (dh_s h 61 2 (nI 0)) 61 9 (nI 0)) 61 10 (nI 0)) 61 11 (nI 0)) 61 12 (nI 0)) 61 13 (nI 0) = h0
  have f0 : fY h h0 := by
    subst eh0
    exact fY_61 (fY_61 (fY_61 (fY_61 (fY_61 (fY_61 (fY_N (fN_rf h)) ⟨by decide, by decide⟩) ⟨by decide, by decide⟩) ⟨by decide, by decide⟩) ⟨by decide, by decide⟩) ⟨by decide, by decide⟩) ⟨by decide, by decide⟩
  have g2 : h0 61 2 = nI 0 := by subst eh0; rfl
  have m0 : MS h0 0 0 0 [] [] := by
    subst eh0
    exact ⟨rfl, rfl, rfl, rfl, rfl, fun c x hx => by simp at hx, fun d x hx => by simp at hx⟩
  clear eh0
  have c0 := MT_fY c f0
  refine c_nextToken c0 (by omega) g2 (fun h1 f1 _ T => w_X10_isRead_34 ?_)
  have m1 := MS_fN m0 f1
  have f01 := fY_tr f0 (fY_N f1)
  have c1 := MT_fY c f01
  rw [TK_2 c1 T (by omega)]
  refine ⟨fun z => kO (0, 0, 0, [], []) h1 (by unfold PT; rw [if_neg z]) f01 m1, fun z => ?_⟩
  have hlt : sk t L 0 < L := by omega
  have hPT : PT t L = match HD t L (sk t L 0) with
    | .error e => .error e
    | .ok r => match PM t L (L + 1) r.2.2 [] [] with
      | .error e => .error e
      | .ok q => .ok (1, r.1, r.2.1, q.1, q.2) := by
    unfold PT
    rw [if_pos hlt]
    rfl
  have loop : ∀ n p (cs : chL) (ds : dmL) hh lo od, L - p < n → p ≤ L → VD cs ds → fY h hh → TK t L p hh → MS hh 1 lo od cs ds →
      (∀ k a h1, PM t L n p cs ds = .error (k, a) → fY h h1 → MF h1 k a → Q (some (.int (nI 0))) h1) →
      (∀ r h1, PM t L n p cs ds = .ok r → fY h h1 → MS h1 1 lo od r.1 r.2 → Q (some (.int (nI 1))) h1) →
      dh_J G mX10_isRead 34 [some (.ref 61)] [] hh Q := by
    intro n
    induction n with
    | zero => intro p cs ds hh lo od h1; omega
    | succ n ih =>
      intro p cs ds hh lo od hn hp hV f T M kE kO
      have cc := MT_fY c f
      have hs := sk_ge t hp
      refine w_X10_isRead_34 ?_
      rw [TK_2 cc T hp]
      refine ⟨fun z => kO (cs, ds) hh (by unfold PM; rw [if_neg z]) f M, fun z => ?_⟩
      have hlt : sk t L p < L := by omega
      have hPM : PM t L (n + 1) p cs ds = match CL t L (sk t L p) cs ds with
        | .error e => .error e
        | .ok r => PM t L n r.1 r.2.1 r.2.2 := by
        show (if sk t L p < L then _ else _) = _
        rw [if_pos hlt]
        rfl
      refine c_isClause cc hp hlt T hV M (fun k a h1 e f1 F => w_X10_isRead_47 ⟨fun y => absurd rfl y, fun _ => kE k a h1 (by rw [hPM, e]) (fY_tr f f1) F⟩) (fun q cs' ds' h1 e f1 g2 M1 => w_X10_isRead_47 ⟨fun _ => ?_, fun y => absurd y (by decide)⟩)
      obtain ⟨o1, o2, o3⟩ := CL_ok hlt hV e
      have f2 := fY_tr f f1
      refine c_nextToken (MT_fY c f2) o2 g2 (fun h2 f3 _ T2 => w_X10_isRead_56 ?_)
      exact ih q cs' ds' h2 lo od (by omega) o2 o3 (fY_tr f2 (fY_N f3)) T2 (MS_fN M1 f3) (fun k a h2 e2 => kE k a h2 (by rw [hPM, e]; exact e2)) (fun r h2 e2 => kO r h2 (by rw [hPM, e]; exact e2))
  refine c_isClause1 c1 (by omega) hlt T m1 (fun k a h2 e f F => w_X10_isRead_47 ⟨fun y => absurd rfl y, fun _ => kE k a h2 (by rw [hPT, e]) (fY_tr f01 f) F⟩) (fun lo od q h2 e f g2 M => w_X10_isRead_47 ⟨fun _ => ?_, fun y => absurd y (by decide)⟩)
  have hd := HD_pos hlt e
  dsimp only at hd
  have f2 := fY_tr f01 f
  refine c_nextToken (MT_fY c f2) hd.2.1 g2 (fun h3 f3 _ T3 => w_X10_isRead_56 ?_)
  refine loop (L + 1) q [] [] h3 lo od (by omega) hd.2.1 VD_nil (fY_tr f2 (fY_N f3)) T3 (MS_fN M f3) (fun k a h2 e2 => kE k a h2 ?_) (fun r h2 e2 => kO (1, lo, od, r.1, r.2) h2 ?_)
  · rw [hPT, e]
    dsimp only
    rw [e2]
  · rw [hPT, e]
    dsimp only
    rw [e2]
end MCD
