/-! the class's matcher -/
theorem nIbt_d : ∀ m, m < 64 → ∀ d, d < 6 → nI m ||| (nI 1 <<< (nI d &&& 31)) = nI (bt m d) ∧ hasB (nI m) (nI d) = Nat.testBit m d := by decide +kernel
theorem nIbt {m d : Nat} (hm : m < 64) (hd : d < 6) : nI m ||| (nI 1 <<< (nI d &&& 31)) = nI (bt m d) := (nIbt_d m hm d hd).1
theorem has_nI {m d : Nat} (hm : m < 64) (hd : d < 6) : hasB (nI m) (nI d) = Nat.testBit m d := (nIbt_d m hm d hd).2
theorem isIn_nd_d : ∀ a, a < 64 → ∀ m, m < 64 → ∀ d, d < 6 → isInB (nI a &&& (nI m ^^^ (-1 : Int32))) (nI d) = (Nat.testBit a d && !Nat.testBit m d) := by decide +kernel
theorem st_nI_d : ∀ a, a < 64 → ∀ n, n ≤ 6 → stF (Nat.testBit a) n = nI (a % 2 ^ n) := by decide +kernel
theorem isIn_nd (f : Nat → Bool) {n d m : Nat} (hn : n ≤ 6) (hd : d < n) (hm : m < 64) : isInB (stF f n &&& (nI m ^^^ (-1 : Int32))) (nI d) = (f d && !Nat.testBit m d) := by
  obtain ⟨a, ha, hf⟩ := bits6 f
  rw [stF_m hn hf, st_nI_d a ha n hn, isIn_nd_d _ (Nat.lt_of_le_of_lt (Nat.mod_le _ _) ha) m hm d (by omega), Nat.testBit_mod_two_pow, hf d (by omega)]
  simp [hd]
theorem best_ix {c : Nat} (hc : c < 7) : [30, 31, 32, 33, 34, 35, 36][c]? = some (30 + c) ∧ dh_LAY[30 + c]? = some (.inr (0, 64, [])) := by
  rcases (show c = 0 ∨ c = 1 ∨ c = 2 ∨ c = 3 ∨ c = 4 ∨ c = 5 ∨ c = 6 by omega) with rfl | rfl | rfl | rfl | rfl | rfl | rfl <;> exact ⟨rfl, rfl⟩
theorem nI_dec {k : Nat} (hk : k < 2 ^ 30) : nI (k + 1) - nI 1 + (-1 : Int32) = nI k - nI 1 := by
  rw [pk_sub (by omega), show k + 1 - 1 = k by omega]
  rw [Int32.sub_eq_add_neg]
  rfl
section CM
variable {G : dh_G} {h g : dh_H} {C D : Nat} {Q : Option Value → dh_H → Prop} {ok : Nat → Nat → Bool}
/-- nothing but the matcher has changed -/
def fM (h h1 : dh_H) : Prop := ∀ a, a ≠ 27 → a ≠ 28 → ¬ (30 ≤ a ∧ a ≤ 36) → h1 a = h a
theorem fM_rf (h : dh_H) : fM h h := fun _ _ _ _ => rfl
theorem fM_s {h h1 : dh_H} (f : fM h h1) {i k : Nat} {x : Int32} (hi : i = 27 ∨ i = 28 ∨ (30 ≤ i ∧ i ≤ 36)) : fM h (dh_s h1 i k x) := fun a h1 h2 h3 => by rw [dh_s_n (by omega)]; exact f a h1 h2 h3
/-- the matcher's numbers, and what is allowed -/
def MA (h : dh_H) (ok : Nat → Nat → Bool) (C D : Nat) : Prop := h 27 0 = nI C ∧ h 27 1 = nI D ∧ ∀ c, c < C → h 28 c = stF (ok c) D
/-- the table from row c0 on -/
def MX (h : dh_H) (ok : Nat → Nat → Bool) (C D c0 : Nat) : Prop := ∀ c, c0 ≤ c → c ≤ C → ∀ m, m < 64 → h (30 + c) m = nI (mF ok D (C - c) c m)
theorem MA_s {h : dh_H} (a : MA h ok C D) {i k : Nat} {x : Int32} (hi : 30 ≤ i) : MA (dh_s h i k x) ok C D := by
  unfold MA at a ⊢
  rw [dh_s_n (by omega), dh_s_n (by omega)]
  exact a
theorem d_bestFrom {c m : Nat} (hC : C ≤ 6) (hD : D ≤ 6) (hc : c < C) (hm : m < 64) (A : MA h ok C D) (X : MX h ok C D (c + 1)) (k : Q (some (.int (nI (mF ok D (C - c) c m)))) h) : dh_C G mX3_bestFrom [.ref 27, .int (nI c), .int (nI m)] h Q := by
  have ix := best_ix (c := c + 1) (by omega)
  have hx := X (c + 1) (Nat.le_refl _) (by omega)
  have eF : mF ok D (C - c) c m = mxG (fr ok c m) (fun d => 1 + mF ok D (C - (c + 1)) (c + 1) (bt m d)) (mF ok D (C - (c + 1)) (c + 1) m) D := by
    rw [show C - c = (C - (c + 1)) + 1 by omega]
    rfl
  have hb : ∀ m', mF ok D (C - (c + 1)) (c + 1) m' ≤ 6 := fun m' => Nat.le_trans (mF_k _ _ _) (by omega)
  refine e_X3_bestFrom ?_
  rw [nI_add, nI_clamp (by omega)]
  refine ⟨vp_in_nI (by omega) (by omega), 30 + (c + 1), ix.1, ix.2, vp_in_nI hm (by decide), ?_⟩
  rw [nI_clamp (by omega), hx m hm]
  refine dh_up (P := fun d => dh_J G mX3_bestFrom 14 [some (.ref 27), some (.int (nI c)), some (.int (nI m)), some (.int (nI (mxG (fr ok c m) (fun d => 1 + mF ok D (C - (c + 1)) (c + 1) (bt m d)) (mF ok D (C - (c + 1)) (c + 1) m) d))), some (.int (nI d))] [] h Q) D ?_ ?_ 0 (by omega)
  · refine w_X3_bestFrom_14 ?_
    rw [A.2.1]
    refine ⟨fun _ => ?_, fun z => absurd (Int32.le_refl _) z⟩
    rw [← eF]
    exact k
  · intro d hd ih
    refine w_X3_bestFrom_14 ?_
    rw [A.2.1, nI_leI (by omega) (by omega), nI_clamp (by omega), A.2.2 c hc]
    refine ⟨fun z => by omega, fun _ => ⟨vp_in_nI (by omega) (by decide), d_isIn ?_⟩⟩
    rw [isIn_nd (ok c) hD hd hm]
    refine w_X3_bestFrom_38 ⟨fun z => ?_, fun z => ?_⟩
    · rw [bI_0] at z
      rw [nI_add]
      have : mxG (fr ok c m) (fun d => 1 + mF ok D (C - (c + 1)) (c + 1) (bt m d)) (mF ok D (C - (c + 1)) (c + 1) m) (d + 1) = mxG (fr ok c m) (fun d => 1 + mF ok D (C - (c + 1)) (c + 1) (bt m d)) (mF ok D (C - (c + 1)) (c + 1) m) d := by
        show (if fr ok c m d then _ else _) = _
        rw [if_neg (by unfold fr; rw [z]; decide)]
      rw [← this]
      exact ih
    · rw [bI_n0] at z
      have hbt := bt_lt hm (show d < 6 by omega)
      rw [nI_add, nI_clamp (by omega), nIbt hm (by omega), nI_clamp (by omega)]
      refine ⟨vp_in_nI (by omega) (by decide), 30 + (c + 1), ix.1, ix.2, vp_in_nI hbt (by decide), ?_⟩
      rw [hx _ hbt, nI_add, nI_add]
      have hmx : mxG (fr ok c m) (fun d => 1 + mF ok D (C - (c + 1)) (c + 1) (bt m d)) (mF ok D (C - (c + 1)) (c + 1) m) d ≤ 7 := by
        rcases mxG_is (fr ok c m) (fun d => 1 + mF ok D (C - (c + 1)) (c + 1) (bt m d)) (mF ok D (C - (c + 1)) (c + 1) m) d with e | ⟨d', -, -, e⟩
        · rw [e]; have := hb m; omega
        · rw [← e]; have := hb (bt m d'); omega
      have hbd := hb (bt m d)
      have : mxG (fr ok c m) (fun d => 1 + mF ok D (C - (c + 1)) (c + 1) (bt m d)) (mF ok D (C - (c + 1)) (c + 1) m) (d + 1) = if mxG (fr ok c m) (fun d => 1 + mF ok D (C - (c + 1)) (c + 1) (bt m d)) (mF ok D (C - (c + 1)) (c + 1) m) d < 1 + mF ok D (C - (c + 1)) (c + 1) (bt m d) then 1 + mF ok D (C - (c + 1)) (c + 1) (bt m d) else mxG (fr ok c m) (fun d => 1 + mF ok D (C - (c + 1)) (c + 1) (bt m d)) (mF ok D (C - (c + 1)) (c + 1) m) d := by
        show (if fr ok c m d then _ else _) = _
        rw [if_pos (by unfold fr; exact z)]
      rw [this] at ih
      generalize mxG (fr ok c m) (fun d => 1 + mF ok D (C - (c + 1)) (c + 1) (bt m d)) (mF ok D (C - (c + 1)) (c + 1) m) d = a at ih hmx ⊢
      generalize mF ok D (C - (c + 1)) (c + 1) (bt m d) = b at ih hbd ⊢
      by_cases y : a < 1 + b
      · rw [if_pos ((nI_ltI (by omega) (by omega)).mpr y)]
        rw [if_pos y] at ih
        exact ih
      · rw [if_neg (fun y2 => y ((nI_ltI (by omega) (by omega)).mp y2))]
        rw [if_neg y] at ih
        exact ih
theorem d_mfill (hC : C ≤ 6) (hD : D ≤ 6) (A : MA h ok C D) (k : ∀ h1, fM h h1 → MA h1 ok C D → MX h1 ok C D 0 → Q none h1) : dh_C G mX3_fill [.ref 27] h Q := by
  have ixC := best_ix (c := C) (by omega)
  -- the rows of the children, from the last on
  have rows : ∀ n hh, n ≤ C → fM h hh → MA hh ok C D → MX hh ok C D n → dh_J G mX3_fill 33 [some (.ref 27), some (.int (nI n - nI 1)), none] [] hh Q := by
    intro n
    induction n with
    | zero =>
      intro hh _ f A X
      exact w_X3_fill_33 ⟨fun _ => k hh f A X, fun z => absurd (by decide) z⟩
    | succ n ih =>
      intro hh hn f A X
      have ix := best_ix (c := n) (by omega)
      have e : nI (n + 1) - nI 1 = nI n := by rw [pk_sub (by omega)]; rfl
      rw [e]
      refine w_X3_fill_33 ⟨fun z => absurd z (nI_pos (by omega)), fun _ => ?_⟩
      refine dh_up (P := fun m => ∀ hh, fM h hh → MA hh ok C D → MX hh ok C D (n + 1) → (∀ m', m' < m → hh (30 + n) m' = nI (mF ok D (C - n) n m')) → dh_J G mX3_fill 39 [some (.ref 27), some (.int (nI n)), some (.int (nI m))] [] hh Q) 64 ?_ ?_ 0 (by omega) hh f A X (fun m' hm' => by omega)
      · intro hh f A X hx
        refine w_X3_fill_39 ⟨fun _ => ?_, fun z => absurd (Int32.le_refl _) z⟩
        rw [show nI n + (-1 : Int32) = nI n - nI 1 by rw [Int32.sub_eq_add_neg]; rfl]
        refine ih hh (by omega) f A (fun c hc1 hc2 m hm => ?_)
        by_cases y : c = n
        · subst y; exact hx m hm
        · exact X c (by omega) hc2 m hm
      · intro m hm ih2 hh f A X hx
        refine w_X3_fill_39 ?_
        rw [nI_leI (by decide) (by omega), nI_clamp (by omega)]
        refine ⟨fun z => by omega, fun _ => ⟨vp_in_nI (by omega) (by decide), 30 + n, ix.1, ix.2, d_bestFrom hC hD (by omega) hm A X (w_X3_fill_58 ix.2 ⟨vp_in_nI hm (by decide), ?_⟩)⟩⟩
        rw [nI_add, nI_clamp (by omega)]
        refine ih2 _ (fM_s f (by omega)) (MA_s A (by omega)) (fun c hc1 hc2 m' hm' => ?_) (fun m' hm' => ?_)
        · rw [dh_s_n (by omega)]
          exact X c hc1 hc2 m' hm'
        · by_cases y : m' = m
          · subst y
            rw [dh_s_eq]
          · rw [dh_s_nk y]
            exact hx m' (by omega)
  refine e_X3_fill (dh_up (P := fun m => ∀ hh, fM h hh → MA hh ok C D → (∀ m', m' < m → hh (30 + C) m' = nI 0) → dh_J G mX3_fill 2 [some (.ref 27), some (.int (nI m)), none] [] hh Q) 64 ?_ ?_ 0 (by omega) h (fM_rf h) A (fun m' hm' => by omega))
  · intro hh f A hx
    refine w_X3_fill_2 ⟨fun _ => ?_, fun z => absurd (Int32.le_refl _) z⟩
    rw [A.1]
    refine rows C hh (Nat.le_refl _) f A (fun c hc1 hc2 m hm => ?_)
    have : c = C := by omega
    subst this
    rw [hx m hm, Nat.sub_self]
    rfl
  · intro m hm ih hh f A hx
    refine w_X3_fill_2 ?_
    rw [A.1, nI_leI (by decide) (by omega), nI_clamp (by omega), nI_clamp (by omega), nI_add]
    refine ⟨fun z => by omega, fun _ => ⟨vp_in_nI (by omega) (by decide), 30 + C, ixC.1, ixC.2, vp_in_nI hm (by decide), ih _ (fM_s f (by omega)) (MA_s A (by omega)) (fun m' hm' => ?_)⟩⟩
    by_cases y : m' = m
    · subst y
      rw [dh_s_eq]
    · rw [dh_s_nk y]
      exact hx m' (by omega)
/-- whether child c may have dummy d -/
def okB (g : dh_H) (C : Nat) (s : Bool) (c d : Nat) : Bool := tk g c d && !(s && inf g C d c)
theorem d_prepare {x : Int32} (hP : PR h g C D) (hW : WV (wv h) (g 68) C D) (k : ∀ h1, fM h h1 → MA h1 (okB g C (!decide (x = 0))) C D → MX h1 (okB g C (!decide (x = 0))) C D 0 → Q none h1) : dh_C G mX3_prepare [.ref 27, .ref 3, .ref 19, .int x] h Q := by
  generalize es : (!decide (x = 0)) = s at k
  have hP' := hP
  obtain ⟨eC, hC, eD, hD, -, -⟩ := hP'
  have kP : ∀ hh, fM h hh → PR hh g C D := fun hh f => PR_cg hP (fun a h1 h2 => f a (by omega) (by omega) (by omega)) (fun _ _ _ => rfl)
  have kW : ∀ hh, fM h hh → WV (wv hh) (g 68) C D := fun hh f => by rw [wv_cg (h := h) (fun a h1 h2 => f a (by omega) (by omega) (by omega))]; exact hW
  refine e_X3_prepare ?_
  rw [eC, eD]
  refine dh_up (P := fun c => ∀ hh, fM h hh → hh 27 0 = nI C → hh 27 1 = nI D → (∀ c', c' < c → hh 28 c' = stF (okB g C s c') D) → dh_J G mX3_prepare 19 [some (.ref 27), some (.ref 3), some (.ref 19), some (.int x), some (.int (nI c)), none] [] hh Q) C ?_ ?_ 0 (by omega) _ (fM_s (fM_s (fM_rf h) (Or.inl rfl)) (Or.inl rfl)) rfl rfl (fun c' hc' => by omega)
  · intro hh f e0 e1 ea
    refine w_X3_prepare_19 ?_
    rw [e0]
    exact ⟨fun _ => d_mfill hC hD ⟨e0, e1, ea⟩ (fun h1 f1 A X => w_X3_prepare_104 (k h1 (fun a x1 x2 x3 => (f1 a x1 x2 x3).trans (f a x1 x2 x3)) A X)), fun z => absurd (Int32.le_refl _) z⟩
  · intro c hc ih hh f e0 e1 ea
    refine w_X3_prepare_19 ?_
    rw [e0, nI_leI (by omega) (by omega), nI_clamp (by omega)]
    refine ⟨fun z => by omega, fun _ => ⟨vp_in_nI (by omega) (by decide), ?_⟩⟩
    refine dh_up (P := fun d => ∀ hh, fM h hh → hh 27 0 = nI C → hh 27 1 = nI D → (∀ c', c' < c → hh 28 c' = stF (okB g C s c') D) → hh 28 c = stF (okB g C s c) d → dh_J G mX3_prepare 39 [some (.ref 27), some (.ref 3), some (.ref 19), some (.int x), some (.int (nI c)), some (.int (nI d))] [] hh Q) D ?_ ?_ 0 (by omega) _ (fM_s f (Or.inr (Or.inl rfl))) e0 e1 (fun c' hc' => by rw [dh_s_nk (by omega)]; exact ea c' hc') (dh_s_eq _ _ _ _)
    · intro hh f e0 e1 ea ec
      refine w_X3_prepare_39 ?_
      rw [e1, nI_add]
      refine ⟨fun _ => ih hh f e0 e1 (fun c' hc' => ?_), fun z => absurd (Int32.le_refl _) z⟩
      by_cases y : c' = c
      · subst y; exact ec
      · exact ea c' (by omega)
    · intro d hd ih2 hh f e0 e1 ea ec
      have no : okB g C s c d = false → dh_J G mX3_prepare 39 [some (.ref 27), some (.ref 3), some (.ref 19), some (.int x), some (.int (nI c)), some (.int (nI d + nI 1))] [] hh Q := by
        intro z
        rw [nI_add]
        refine ih2 hh f e0 e1 ea ?_
        rw [stF_f z, or_n0]
        exact ec
      have yes : okB g C s c d = true → (vp_in (nI c) 6) ∧ (vp_in (nI c) 6) ∧ dh_J G mX3_prepare 39 [some (.ref 27), some (.ref 3), some (.ref 19), some (.int x), some (.int (nI c)), some (.int (nI d + nI 1))] [] (dh_s hh 28 (nI c).toNatClampNeg ((hh 28 (nI c).toNatClampNeg) ||| ((nI 1) <<< (nI d &&& 31)))) Q := by
        intro z
        rw [nI_add, nI_clamp (by omega)]
        refine ⟨vp_in_nI (by omega) (by decide), vp_in_nI (by omega) (by decide), ih2 _ (fM_s f (Or.inr (Or.inl rfl))) e0 e1 (fun c' hc' => ?_) ?_⟩
        · rw [dh_s_nk (by omega)]
          exact ea c' hc'
        · rw [dh_s_eq, ec, stF_t z]
      refine w_X3_prepare_39 ?_
      rw [e1, nI_leI (by omega) (by omega)]
      refine ⟨fun z => by omega, fun _ => d_takes (kP hh f) hc ?_⟩
      rw [ixB_nI (by omega), nI_clamp (by omega)]
      simp only [hd, decide_true, Bool.true_and]
      refine w_X3_prepare_56 ⟨fun z => ?_, fun z => ⟨fun y => ?_, fun y => ?_⟩⟩
      · rw [bI_0] at z
        refine no ?_
        unfold okB
        rw [z]
        rfl
      · rw [bI_n0] at z
        refine yes ?_
        have : s = false := by rw [← es, y]; rfl
        unfold okB
        rw [z, this]
        rfl
      · rw [bI_n0] at z
        have hs : s = true := by rw [← es]; simp [y]
        refine d_infects (kP hh f) (kW hh f) hd hc (w_X3_prepare_71 ⟨fun w => no ?_, fun w => yes ?_⟩)
        · rw [bI_n0] at w
          unfold okB
          rw [z, hs, w]
          rfl
        · rw [bI_0] at w
          unfold okB
          rw [z, hs, w]
          rfl
theorem d_most {m : Nat} (hC : C ≤ 6) (hm : m < 64) (X : MX h ok C D 0) (k : Q (some (.int (nI (mF ok D C 0 m)))) h) : dh_C G mX3_most [.ref 27, .int (nI m)] h Q := by
  refine e_X3_most ?_
  rw [nI_leI (by decide) (by omega)]
  refine ⟨fun z => absurd z (nI_pos (by omega)), fun _ => ⟨fun z => by omega, fun _ => ⟨vp_in_nI (by decide) (by decide), 30, rfl, rfl, vp_in_nI hm (by decide), ?_⟩⟩⟩
  rw [nI_clamp (show m < 2 ^ 31 by omega), show h 30 m = h (30 + 0) m from rfl, X 0 (by omega) (by omega) m hm]
  exact k
def dI (D d : Nat) : Int32 := if d < D then nI d else -1
theorem d_firstBest {c m : Nat} (hC : C ≤ 6) (hD : D ≤ 6) (hc : c < C) (hm : m < 64) (A : MA h ok C D) (X : MX h ok C D 0) (k : Q (some (.int (dI D (mD ok D (C - (c + 1)) c m)))) h) : dh_C G mX3_firstBest [.ref 27, .int (nI c), .int (nI m)] h Q := by
  have ix := best_ix (c := c) (by omega)
  have ix1 := best_ix (c := c + 1) (by omega)
  have hb : ∀ m', mF ok D (C - (c + 1)) (c + 1) m' ≤ 6 := fun m' => Nat.le_trans (mF_k _ _ _) (by omega)
  have hb1 : mF ok D (C - c) c m ≤ 6 := Nat.le_trans (mF_k _ _ _) (by omega)
  have eD : mD ok D (C - (c + 1)) c m = fsN (fun d => fr ok c m d && decide (1 + mF ok D (C - (c + 1)) (c + 1) (bt m d) = mF ok D (C - c) c m)) D := by
    unfold mD
    rw [show C - (c + 1) + 1 = C - c by omega]
  refine e_X3_firstBest (dh_up (P := fun d => (∀ e, e < d → (fr ok c m e && decide (1 + mF ok D (C - (c + 1)) (c + 1) (bt m e) = mF ok D (C - c) c m)) = false) → dh_J G mX3_firstBest 2 [some (.ref 27), some (.int (nI c)), some (.int (nI m)), some (.int (nI d))] [] h Q) D ?_ ?_ 0 (by omega) (fun e he => by omega))
  · intro hn
    refine w_X3_firstBest_2 ?_
    rw [A.2.1]
    refine ⟨fun _ => ?_, fun z => absurd (Int32.le_refl _) z⟩
    rw [eD, fsN_no hn] at k
    unfold dI at k
    rw [if_neg (by omega)] at k
    exact k
  · intro d hd ih hn
    refine w_X3_firstBest_2 ?_
    rw [A.2.1, nI_leI (by omega) (by omega), nI_clamp (by omega), A.2.2 c hc]
    refine ⟨fun z => by omega, fun _ => ⟨vp_in_nI (by omega) (by decide), d_isIn ?_⟩⟩
    rw [isIn_nd (ok c) hD hd hm]
    have skip : (fr ok c m d && decide (1 + mF ok D (C - (c + 1)) (c + 1) (bt m d) = mF ok D (C - c) c m)) = false → dh_J G mX3_firstBest 2 [some (.ref 27), some (.int (nI c)), some (.int (nI m)), some (.int (nI d + nI 1))] [] h Q := by
      intro z
      rw [nI_add]
      refine ih (fun e he => ?_)
      by_cases y : e = d
      · subst y; exact z
      · exact hn e (by omega)
    refine w_X3_firstBest_24 ⟨fun z => ?_, fun z => ?_⟩
    · rw [bI_0] at z
      refine skip ?_
      unfold fr
      rw [z]
      rfl
    · rw [bI_n0] at z
      have hf : fr ok c m d = true := z
      have hbt := bt_lt hm (show d < 6 by omega)
      have hbd := hb (bt m d)
      rw [nI_add, nI_clamp (show c + 1 < 2 ^ 31 by omega), nI_clamp (show c < 2 ^ 31 by omega), nIbt hm (by omega), nI_clamp (show bt m d < 2 ^ 31 by omega), nI_clamp (show m < 2 ^ 31 by omega)]
      refine ⟨vp_in_nI (by omega) (by decide), 30 + (c + 1), ix1.1, ix1.2, vp_in_nI hbt (by decide), vp_in_nI (by omega) (by decide), 30 + c, ix.1, ix.2, vp_in_nI hm (by decide), ?_⟩
      rw [X (c + 1) (by omega) (by omega) _ hbt, X c (by omega) (by omega) m hm, nI_add, nI_eq (by omega) (by omega)]
      refine ⟨fun y => skip ?_, fun y => ?_⟩
      · rw [hf]
        simpa using y
      · rw [eD, fsN_is hd (by rw [hf]; simpa using y) hn] at k
        unfold dI at k
        rw [if_pos hd] at k
        exact k
theorem d_dummyFor {c0 : Nat} (hC : C ≤ 6) (hD : D ≤ 6) (hc0 : c0 < C) (A : MA h ok C D) (X : MX h ok C D 0) (k : Q (some (.int (dI D (dg D (C - (c0 + 1)) (mC ok D C 0 0))))) h) : dh_C G mX3_dummyFor [.ref 27, .int (nI c0)] h Q := by
  refine e_X3_dummyFor ?_
  refine dh_up (P := fun c => ∀ m, c ≤ c0 → m < 64 → mC ok D C 0 0 % (D + 1) ^ (C - c) = mC ok D (C - c) c m → dh_J G mX3_dummyFor 4 [some (.ref 27), some (.int (nI c0)), some (.int (nI m)), some (.int (nI c)), none] [] h Q) C ?_ ?_ 0 (by omega) 0 (by omega) (by decide) (Nat.mod_eq_of_lt (mC_lt _ _ _))
  · intro m h1
    omega
  · intro c hc ih m hcc hm hmod
    have e1 : C - c = (C - (c + 1)) + 1 := by omega
    rw [e1] at hmod
    have hdg : dg D (C - (c + 1)) (mC ok D C 0 0) = mD ok D (C - (c + 1)) c m := by
      rw [← dg_mod ((C - (c + 1)) + 1) (C - (c + 1)) _ (by omega), hmod, mC_dg]
    have hmod2 : mC ok D C 0 0 % (D + 1) ^ (C - (c + 1)) = mC ok D (C - (c + 1)) (c + 1) (nx D m (mD ok D (C - (c + 1)) c m)) := by
      rw [← mC_mod, ← hmod, Nat.pow_succ, Nat.mod_mul_right_mod]
    have hle := mD_le (ok := ok) (D := D) (C - (c + 1)) c m
    refine w_X3_dummyFor_4 ?_
    rw [A.1, nI_leI (by omega) (by omega)]
    refine ⟨fun z => by omega, fun _ => d_firstBest hC hD hc hm A X (w_X3_dummyFor_18 ?_)⟩
    rw [nI_eq (by omega) (by omega), nI_add]
    refine ⟨fun z => ⟨fun y => ?_, fun y => ?_⟩, fun z => ?_⟩
    · refine ih m (by omega) hm ?_
      unfold dI at y
      by_cases w : mD ok D (C - (c + 1)) c m < D
      · rw [if_pos w] at y
        exact absurd y (nI_ne_m1 (by omega))
      · unfold nx at hmod2
        rw [if_neg w] at hmod2
        exact hmod2
    · unfold dI at y ⊢
      by_cases w : mD ok D (C - (c + 1)) c m < D
      · rw [if_pos w, nIbt hm (by omega)]
        refine ih _ (by omega) (bt_lt hm (by omega)) ?_
        unfold nx at hmod2
        rw [if_pos w] at hmod2
        exact hmod2
      · rw [if_neg w] at y
        exact absurd rfl y
    · subst z
      rw [hdg] at k
      exact k
end CM
