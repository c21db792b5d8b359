/-! the model's reader -/
section MRD
variable {G : dh_G} {h : dh_H} {Q : Option Value → dh_H → Prop} {t : Nat → Nat} {L : Nat} {cs : chL} {ds : dmL}
def MT (t : Nat → Nat) (L : Nat) (h : dh_H) : Prop := h 61 0 = nI L ∧ L ≤ 240 ∧ ∀ k, k < L → h 62 k = nI (t k) ∧ t k ≤ 255
/-- nothing but the token's numbers and the fault have changed -/
def fN (h h1 : dh_H) : Prop := (∀ a, a ≠ 61 → h1 a = h a) ∧ ∀ k, ¬ (2 ≤ k ∧ k ≤ 8) → h1 61 k = h 61 k
theorem fN_rf (h : dh_H) : fN h h := ⟨fun _ _ => rfl, fun _ _ => rfl⟩
theorem fN_s {h h1 : dh_H} (f : fN h h1) {k : Nat} {x : Int32} (hk : 2 ≤ k ∧ k ≤ 8) : fN h (dh_s h1 61 k x) := ⟨fun a ha => by rw [dh_s_n ha]; exact f.1 a ha, fun j hj => by rw [dh_s_nk (fun e => hj (by rw [e]; exact hk))]; exact f.2 j hj⟩
theorem fN_tr {h h1 h2 : dh_H} (f : fN h h1) (f2 : fN h1 h2) : fN h h2 := ⟨fun a ha => (f2.1 a ha).trans (f.1 a ha), fun k hk => (f2.2 k hk).trans (f.2 k hk)⟩
theorem MT_fN {h h1 : dh_H} (c : MT t L h) (f : fN h h1) : MT t L h1 := by
  unfold MT at c ⊢
  rw [f.2 0 (by omega), f.1 62 (by decide)]
  exact c
/-- a token, read from i on -/
def TK (t : Nat → Nat) (L i : Nat) (h : dh_H) : Prop :=
  h 61 3 = nI (sk t L i) ∧ (sk t L i = L → h 61 4 = -2 ∧ h 61 2 = nI L) ∧
  (sk t L i < L → fg (t (sk t L i)) = true → h 61 4 = -1 ∧ h 61 5 = nI (nm t L (sk t L i)).1 ∧ h 61 6 = nI (nm t L (sk t L i)).2.1 ∧ h 61 2 = nI (nm t L (sk t L i)).2.2) ∧
  (sk t L i < L → fg (t (sk t L i)) = false → h 61 4 = nI (t (sk t L i)) ∧ h 61 2 = nI (sk t L i + 1))
theorem fig_nat {x : Nat} (hx : x ≤ 255) : inB (nI x) (nI 48) (nI 57) = fg x := by
  have := fig_lt (t := fun _ => x) (L := 1) (fun _ _ => hx) 0
  unfold lt at this
  simpa using this
theorem c_nextToken {i : Nat} (c : MT t L h) (hi : i ≤ L) (e : h 61 2 = nI i) (k : ∀ h1, fN h h1 → h1 61 7 = h 61 7 → TK t L i h1 → Q none h1) : dh_C G mX10_nextToken [.ref 61] h Q := by
  have hL := c.2.1
  -- behind the blanks, at p
  have tok : ∀ hh p, fN h hh → hh 61 7 = h 61 7 → hh 61 2 = nI p → p ≤ L → sk t L p = p → (∀ h1, fN h h1 → h1 61 7 = h 61 7 → TK t L p h1 → Q none h1) →
      ((¬ (hh 61 2) = (hh 61 0)) → (vp_in (hh 61 2) 240) ∧ dh_C G mX10_in [.int (hh 62 (hh 61 2).toNatClampNeg), .int (nI 48), .int (nI 57)] (dh_s (dh_s (dh_s hh 61 3 (hh 61 2)) 61 5 (nI 0)) 61 6 (nI 0)) (fun v h1 => dh_J G mX10_nextToken 92 [some (.ref 61)] (v.toList ++ []) h1 Q)) ∧ (((hh 61 2) = (hh 61 0)) → Q none (dh_s (dh_s (dh_s (dh_s hh 61 3 (hh 61 2)) 61 5 (nI 0)) 61 6 (nI 0)) 61 4 (-2 : Int32))) := by
    intro hh p f e7 e2 hp es k
    have cc := MT_fN c f
    rw [e2, cc.1, nI_eq (by omega) (by omega), nI_clamp (by omega)]
    have f3 : fN h (dh_s (dh_s (dh_s hh 61 3 (nI p)) 61 5 (nI 0)) 61 6 (nI 0)) := fN_s (fN_s (fN_s f ⟨by decide, by decide⟩) ⟨by decide, by decide⟩) ⟨by decide, by decide⟩
    refine ⟨fun q => ?_, fun q => k _ (fN_s f3 ⟨by decide, by decide⟩) e7 ⟨?_, fun _ => ⟨rfl, ?_⟩, fun z => ?_, fun z => ?_⟩⟩
    · have hlt : p < L := by omega
      have ct := cc.2.2 p hlt
      rw [ct.1]
      refine ⟨vp_in_nI (by omega) (by omega), c_in ?_⟩
      rw [fig_nat ct.2]
      generalize eh3 : dh_s (dh_s (dh_s hh 61 3 (nI p)) 61 5 (nI 0)) 61 6 (nI 0) = h3 at f3
      have g2 : h3 61 2 = nI p := by subst eh3; exact e2
      have g3 : h3 61 3 = nI p := by subst eh3; rfl
      have g5 : h3 61 5 = nI 0 := by subst eh3; rfl
      have g6 : h3 61 6 = nI 0 := by subst eh3; rfl
      have g7 : h3 61 7 = h 61 7 := by subst eh3; exact e7
      have c3 := MT_fN c f3
      clear eh3
      refine w_X10_nextToken_92 ⟨fun z => ?_, fun z => ?_⟩
      · rw [bI_0] at z
        rw [g2, nI_clamp (by omega), (c3.2.2 p hlt).1, nI_add]
        refine ⟨vp_in_nI (by omega) (by omega), k _ (fN_s (fN_s f3 ⟨by decide, by decide⟩) ⟨by decide, by decide⟩) g7 ⟨?_, fun y => ?_, fun _ y => ?_, fun _ _ => ⟨?_, ?_⟩⟩⟩
        · rw [es]; exact g3
        · rw [es] at y; omega
        · rw [es, z] at y; exact absurd y (by decide)
        · rw [es]; rfl
        · rw [es, dh_s_eq]
      · rw [bI_n0] at z
        -- the figures
        refine dh_up (P := fun j => ∀ hj v, p + j ≤ L → fN h hj → hj 61 7 = h 61 7 → hj 61 3 = nI p → hj 61 2 = nI (p + j) → hj 61 5 = nI v → hj 61 6 = nI j → nm t L p = nmV t (L - (p + j)) (p + j) v j → nb3 j v → dh_J G mX10_nextToken 95 [some (.ref 61)] [] hj Q) 240 ?_ ?_ 0 (by omega) h3 0 (by omega) f3 g7 g3 g2 g5 g6 rfl (Or.inl ⟨rfl, rfl⟩)
        · intro hj v hpj fj j7 j3 j2 j5 j6 en hb
          refine w_X10_nextToken_95 ⟨fun _ => k _ (fN_s fj ⟨by decide, by decide⟩) j7 ⟨by rw [es]; exact j3, fun y => by rw [es] at y; omega, fun _ _ => ?_, fun _ y => ?_⟩, fun y => ?_⟩
          · rw [es, en, show L - (p + 240) = 0 by omega]
            exact ⟨rfl, j5, j6, j2⟩
          · rw [es, z] at y; exact absurd y (by decide)
          · rw [(MT_fN c fj).1, j2, nI_leI (by omega) (by omega)] at y
            omega
        · intro j hj ih hh2 v hpj fj j7 j3 j2 j5 j6 en hb
          have cj := MT_fN c fj
          have hv : v ≤ 999 := by unfold nb3 at hb; omega
          have stop : (p + j = L ∨ (p + j < L ∧ fg (t (p + j)) = false)) → Q none (dh_s hh2 61 4 (-1)) := by
            intro hst
            refine k _ (fN_s fj ⟨by decide, by decide⟩) j7 ⟨by rw [es]; exact j3, fun y => by rw [es] at y; omega, fun _ _ => ?_, fun _ y => ?_⟩
            · rw [es]
              have en2 : nm t L p = (v, j, p + j) := by
                rw [en]
                rcases hst with y | ⟨y1, y2⟩
                · rw [show L - (p + j) = 0 by omega]
                  rfl
                · rw [show L - (p + j) = (L - (p + j) - 1) + 1 by omega]
                  show (if fg (t (p + j)) then _ else _) = _
                  rw [y2, if_neg (by decide)]
              rw [en2]
              exact ⟨rfl, j5, j6, j2⟩
            · rw [es, z] at y; exact absurd y (by decide)
          refine w_X10_nextToken_95 ?_
          rw [cj.1, j2, nI_leI (by omega) (by omega), nI_clamp (by omega)]
          refine ⟨fun y => stop (Or.inl (by omega)), fun y => ?_⟩
          have hlt2 : p + j < L := by omega
          have ctj := cj.2.2 (p + j) hlt2
          rw [ctj.1]
          refine ⟨vp_in_nI (by omega) (by omega), c_in ?_⟩
          rw [fig_nat ctj.2]
          refine w_X10_nextToken_122 ⟨fun y2 => stop (Or.inr ⟨hlt2, by rw [bI_0] at y2; exact y2⟩), fun y2 => ?_⟩
          rw [bI_n0] at y2
          have hfg : 48 ≤ t (p + j) := by
            have := y2
            simp only [fg, Bool.and_eq_true, decide_eq_true_eq] at this
            exact this.1
          have en2 : nm t L p = nmV t (L - (p + (j + 1))) (p + (j + 1)) (if j < 3 then 10 * v + t (p + j) - 48 else v) (j + 1) := by
            rw [en, show L - (p + j) = (L - (p + (j + 1))) + 1 by omega]
            show (if fg (t (p + j)) then nmV t (L - (p + (j + 1))) (p + j + 1) (if j < 3 then 10 * v + t (p + j) - 48 else v) (j + 1) else _) = _
            rw [if_pos y2]
            rfl
          have hb2 := nb3_s hb y2
          have go : ∀ v' x, x = nI v' → v' = (if j < 3 then 10 * v + t (p + j) - 48 else v) → dh_J G mX10_nextToken 95 [some (.ref 61)] [] (dh_s (dh_s (dh_s hh2 61 5 x) 61 6 (nI (j + 1))) 61 2 (nI (p + (j + 1)))) Q := by
            intro v' x ex ev
            subst ex
            subst ev
            exact ih _ _ (by omega) (fN_s (fN_s (fN_s fj ⟨by decide, by decide⟩) ⟨by decide, by decide⟩) ⟨by decide, by decide⟩) j7 j3 (dh_s_eq _ _ _ _) rfl rfl en2 hb2
          rw [j5, j6, j2, nI_leI (by decide) (by omega), nI_add, nI_add, nI_clamp (by omega), ctj.1]
          refine ⟨fun y3 => go v _ rfl (by rw [if_neg (by omega)]), fun y3 => ⟨vp_in_nI (by omega) (by omega), ?_⟩⟩
          rw [pk_mul, nI_add, pk_sub (by omega)]
          exact go _ _ rfl (by rw [if_pos (by omega)])
    · rw [es]; rfl
    · rw [← q]; exact e2
    · rw [es] at z; omega
    · rw [es] at z; omega
  -- the blanks
  have key := dh_up (P := fun i => ∀ hh, fN h hh → hh 61 7 = h 61 7 → hh 61 2 = nI i → (∀ h1, fN h h1 → h1 61 7 = h 61 7 → TK t L i h1 → Q none h1) → dh_J G mX10_nextToken 0 [some (.ref 61)] [] hh Q) L ?_ ?_ i hi h (fN_rf h) rfl e k
  · exact dh_C_of [some (.ref 61)] (by decide) (Nat.le_of_ble_eq_true rfl) rfl key
  · intro hh f e7 e k
    have cc := MT_fN c f
    refine w_X10_nextToken_0 ⟨fun _ => tok hh L f e7 e (Nat.le_refl _) (sk_e (Nat.le_refl _)) k, fun q => ?_⟩
    rw [cc.1, e] at q
    exact absurd (Int32.le_refl _) q
  · intro i hi ih hh f e7 e k
    have cc := MT_fN c f
    have ct := cc.2.2 i hi
    refine w_X10_nextToken_0 ⟨fun q => ?_, fun q => ⟨?_, fun q2 => ?_, fun q2 => ?_⟩⟩
    · rw [cc.1, e, nI_leI (by omega) (by omega)] at q
      omega
    · rw [e]; exact vp_in_nI (by omega) (by omega)
    · rw [e, nI_clamp (by omega), ct.1] at q2
      exact tok hh i f e7 e (by omega) (sk_n hi (fun z => q2 (by rw [z]))) k
    · rw [e, nI_clamp (by omega), ct.1, nI_eq (by omega) (by decide)] at q2
      rw [e, nI_add]
      refine ih _ (fN_s f ⟨by decide, by decide⟩) e7 (dh_s_eq _ _ _ _) (fun h1 f1 g7 T => k h1 f1 g7 ?_)
      unfold TK at T ⊢
      rw [sk_b hi q2]
      exact T
theorem c_fails {x : Int32} (k : Q (some (.int (nI 0))) (dh_s (dh_s h 61 7 (h 61 3)) 61 8 x)) : dh_C G mX10_fails [.ref 61, .int x] h Q := e_X10_fails k
/-- the model's reader behind its fault -/
def MF (h : dh_H) (k a : Nat) : Prop := h 61 8 = nI k ∧ h 61 7 = nI a ∧ 0 < k ∧ k ≤ 4
theorem MF_s {p k : Nat} (e : h 61 3 = nI p) (hk : 0 < k ∧ k ≤ 4) : MF (dh_s (dh_s h 61 7 (h 61 3)) 61 8 (nI k)) k p := ⟨dh_s_eq _ _ _ _, by rw [dh_s_nk (by decide), dh_s_eq]; exact e, hk.1, hk.2⟩
theorem c_isNumber {i least most : Nat} (c : MT t L h) (hi : i ≤ L) (e : h 61 2 = nI i) (hlm : least ≤ most) (hm : most ≤ 999)
    (kE : ∀ k a h1, NR t L i least most = .error (k, a) → fN h h1 → MF h1 k a → Q (some (.int (nI 0))) h1)
    (kO : ∀ v p h1, NR t L i least most = .ok (v, p) → fN h h1 → h1 61 7 = h 61 7 → h1 61 2 = nI p → h1 61 5 = nI v → Q (some (.int (nI 1))) h1) : dh_C G mX10_isNumber [.ref 61, .int (nI least), .int (nI most)] h Q := by
  have hL := c.2.1
  have hs := sk_ge t hi
  refine e_X10_isNumber (c_nextToken c hi e (fun h1 f e7 T => w_X10_isNumber_4 ?_))
  obtain ⟨t3, tL, tf, tn⟩ := T
  have fFail : ∀ k, fN h (dh_s (dh_s h1 61 7 (h1 61 3)) 61 8 (nI k)) := fun k => fN_s (fN_s f ⟨by decide, by decide⟩) ⟨by decide, by decide⟩
  have not1 : ¬ h1 61 4 = -1 → ¬ (sk t L i < L ∧ fg (t (sk t L i)) = true) := fun z y => z (tf y.1 y.2).1
  refine ⟨fun q => ?_, fun q => c_fails (w_X10_isNumber_17 ⟨Or.inl (by decide), kE 1 (sk t L i) _ ?_ (fFail 1) (MF_s t3 (by decide))⟩)⟩
  · have hfig : sk t L i < L ∧ fg (t (sk t L i)) = true := by
      by_cases z : sk t L i < L
      · refine ⟨z, ?_⟩
        cases z2 : fg (t (sk t L i)) with
        | true => rfl
        | false =>
          have := (tn z z2).1
          rw [q] at this
          exact absurd this (m1_ne_nI (by have := (c.2.2 _ z).2; omega))
      · have := (tL (by omega)).1
        rw [q] at this
        exact absurd this (by decide)
    obtain ⟨u4, u5, u6, u2⟩ := tf hfig.1 hfig.2
    have hok := nmV_ok t (L - sk t L i) (sk t L i) 0 0 (Or.inl ⟨rfl, rfl⟩)
    have hNR : NR t L i least most = if 3 < (nm t L (sk t L i)).2.1 ∨ (nm t L (sk t L i)).1 < least ∨ most < (nm t L (sk t L i)).1 then .error (2, sk t L i) else .ok ((nm t L (sk t L i)).1, (nm t L (sk t L i)).2.2) := by
      unfold NR
      rw [if_pos hfig]
    unfold nm at u5 u6 u2 hNR
    generalize nmV t (L - sk t L i) (sk t L i) 0 0 = r at u5 u6 u2 hNR hok
    have hv : r.1 ≤ 999 := by have := hok.1; unfold nb3 at this; omega
    have bad : (3 < r.2.1 ∨ r.1 < least ∨ most < r.1) → dh_C G mX10_fails [.ref 61, .int (nI 2)] h1 (fun v h1 => dh_J G mX10_isNumber 43 [none, none, none] (v.toList ++ []) h1 Q) := fun hb => c_fails (w_X10_isNumber_43 ⟨fun _ => kE 2 (sk t L i) _ (by rw [hNR, if_pos hb]) (fFail 2) (MF_s t3 (by decide)), fun z => absurd (by decide) z⟩)
    rw [u5, u6, nI_leI (by decide) (by omega)]
    refine ⟨fun z => bad (Or.inl (by omega)), fun z => c_in (w_X10_isNumber_35 ⟨fun y => ?_, fun y => ?_⟩)⟩
    · rw [bI_n0, inB_nat _ (by omega) (by omega)] at y
      obtain ⟨v, v1, v2, v3⟩ := y
      rw [nI_eq (by omega) (by omega)] at v3
      exact kO r.1 r.2.2 h1 (by rw [hNR, if_neg (by omega)]) f e7 u2 u5
    · refine bad ?_
      by_cases w1 : r.1 < least
      · exact Or.inr (Or.inl w1)
      · by_cases w2 : most < r.1
        · exact Or.inr (Or.inr w2)
        · rw [bI_0] at y
          have := (inB_nat (nI r.1) (show least < 2 ^ 31 by omega) (show most < 2 ^ 31 by omega)).mpr ⟨r.1, by omega, by omega, rfl⟩
          rw [y] at this
          exact absurd this (by decide)
  · unfold NR
    rw [if_neg (not1 q)]
theorem c_isEnd {i : Nat} (c : MT t L h) (hi : i ≤ L) (e : h 61 2 = nI i)
    (kE : ∀ k a h1, SC t L i = .error (k, a) → fN h h1 → MF h1 k a → Q (some (.int (nI 0))) h1)
    (kO : ∀ p h1, SC t L i = .ok p → fN h h1 → h1 61 7 = h 61 7 → h1 61 2 = nI p → Q (some (.int (nI 1))) h1) : dh_C G mX10_isEnd [.ref 61] h Q := by
  have hL := c.2.1
  have hs := sk_ge t hi
  refine e_X10_isEnd (c_nextToken c hi e (fun h1 f e7 T => w_X10_isEnd_4 ?_))
  obtain ⟨t3, tL, tf, tn⟩ := T
  have is59 : h1 61 4 = nI 59 ↔ (sk t L i < L ∧ t (sk t L i) = 59) := by
    constructor
    · intro q
      by_cases z : sk t L i < L
      · refine ⟨z, ?_⟩
        cases z2 : fg (t (sk t L i)) with
        | true =>
          have := (tf z z2).1
          rw [q] at this
          exact absurd this (by decide)
        | false =>
          have := (tn z z2).1
          rw [q, nI_eq (by decide) (by have := (c.2.2 _ z).2; omega)] at this
          exact this.symm
      · have := (tL (by omega)).1
        rw [q] at this
        exact absurd this (by decide)
    · rintro ⟨z, z2⟩
      have : fg (t (sk t L i)) = false := by rw [z2]; decide
      rw [(tn z this).1, z2]
  refine ⟨fun q => ?_, fun q => c_fails (w_X10_isEnd_18 ⟨fun _ => kE 1 (sk t L i) _ ?_ (fN_s (fN_s f ⟨by decide, by decide⟩) ⟨by decide, by decide⟩) (MF_s t3 (by decide)), fun z => absurd (by decide) z⟩)⟩
  · have z := is59.mp q
    have z2 : fg (t (sk t L i)) = false := by rw [z.2]; decide
    exact kO (sk t L i + 1) h1 (by unfold SC; rw [if_pos z]) f e7 (tn z.1 z2).2
  · unfold SC
    rw [if_neg (fun z => q (is59.mpr z))]
/-- the model's draft -/
def DM (h : dh_H) (cs : chL) (ds : dmL) : Prop :=
  h 61 12 = nI cs.length ∧ h 61 13 = nI ds.length ∧ (∀ c x, cs[c]? = some x → h 63 (2 * c) = nI x.1 ∧ h 63 (2 * c + 1) = nI x.2) ∧ (∀ d x, ds[d]? = some x → h 64 (4 * d) = nI x.1 ∧ h 64 (4 * d + 1) = nI x.2.1 ∧ h 64 (4 * d + 2) = nI x.2.2.1 ∧ h 64 (4 * d + 3) = nI x.2.2.2)
theorem DM_fN {h h1 : dh_H} (d : DM h cs ds) (f : fN h h1) : DM h1 cs ds := by
  unfold DM at d ⊢
  rw [f.2 12 (by omega), f.2 13 (by omega), f.1 63 (by decide), f.1 64 (by decide)]
  exact d
/-- nothing but the model's reader has changed -/
def fY (h h1 : dh_H) : Prop := (∀ a, a ≠ 61 → a ≠ 63 → a ≠ 64 → h1 a = h a) ∧ ∀ k, ¬ (2 ≤ k ∧ k ≤ 13) → h1 61 k = h 61 k
theorem fY_N {h h1 : dh_H} (f : fN h h1) : fY h h1 := ⟨fun a ha _ _ => f.1 a ha, fun k hk => f.2 k (by omega)⟩
theorem fY_tr {h h1 h2 : dh_H} (f : fY h h1) (f2 : fY h1 h2) : fY h h2 := ⟨fun a ha hb hc => (f2.1 a ha hb hc).trans (f.1 a ha hb hc), fun k hk => (f2.2 k hk).trans (f.2 k hk)⟩
theorem fY_61 {h h1 : dh_H} (f : fY h h1) {k : Nat} {x : Int32} (hk : 2 ≤ k ∧ k ≤ 13) : fY h (dh_s h1 61 k x) := ⟨fun a ha hb hc => by rw [dh_s_n ha]; exact f.1 a ha hb hc, fun j hj => by rw [dh_s_nk (fun e => hj (by rw [e]; exact hk))]; exact f.2 j hj⟩
theorem fY_r {h h1 : dh_H} (f : fY h h1) {i k : Nat} {x : Int32} (hi : i = 63 ∨ i = 64) : fY h (dh_s h1 i k x) := ⟨fun a ha hb hc => by rw [dh_s_n (by omega)]; exact f.1 a ha hb hc, fun j hj => by rw [dh_s_n (by omega)]; exact f.2 j hj⟩
theorem MT_fY {h h1 : dh_H} (c : MT t L h) (f : fY h h1) : MT t L h1 := by
  unfold MT at c ⊢
  rw [f.2 0 (by omega), f.1 62 (by decide) (by decide) (by decide)]
  exact c
end MRD
