/-! the pairs mostCalm and spares -/
section S9
variable {G : dh_G} {h : dh_H} {Q : Option Value → dh_H → Prop}
theorem RR_mt {h h1 h2 : dh_H} {C D : Nat} (R : RR h h C D) (f : fM h h1) (f2 : ∀ a, a ≠ 75 → a ≠ 76 → h2 a = h1 a) : RR h2 h2 C D := by
  have ff : ∀ a, a ≠ 75 → a ≠ 76 → a ≠ 27 → a ≠ 28 → ¬ (30 ≤ a ∧ a ≤ 36) → h2 a = h a := fun a x1 x2 x3 x4 x5 => (f2 a x1 x2).trans (f a x3 x4 x5)
  refine RR_scr (fun a ha => ?_) ?_ ?_ ?_ (fun k _ => ?_) R
  · unfold kpt at ha
    exact ff a (by omega) (by omega) (by omega) (by omega) (by omega)
  · rw [ff 1 (by decide) (by decide) (by decide) (by decide) (by omega)]
  · rw [ff 1 (by decide) (by decide) (by decide) (by decide) (by omega)]
  · rw [ff 37 (by decide) (by decide) (by decide) (by decide) (by omega)]
  · rw [ff 61 (by decide) (by decide) (by decide) (by decide) (by omega)]
theorem okB_f {h h1 : dh_H} {C : Nat} (f : fM h h1) (s : Bool) : okB h1 C s = okB h C s := by
  funext c d
  exact okB_cg (fun a x1 x2 => f a (by omega) (by omega) (by omega)) s c d
theorem sim_mostCalm {x1 x2 : Int32} (I : Inv h) : SM G mX9_mostCalm mX10_mostCalm [.int x1, .int x2] h := by
  have J := I
  obtain ⟨C, D, R⟩ := I
  have R' := R
  obtain ⟨r1, r2, r3, r4, -, -, -, -, -, -⟩ := R'
  have hN := r1
  obtain ⟨eC, hC, eD, hD⟩ := hN
  have hO := mO_of r2
  have mNf : ∀ h1, fM h h1 → mN h1 C D := fun h1 f => by unfold mN at r1 ⊢; rw [f 61 (by decide) (by decide) (by omega)]; exact r1
  have mOf : ∀ h1, fM h h1 → mO h1 C D := fun h1 f => by unfold mO at hO ⊢; rw [f 67 (by decide) (by decide) (by omega)]; exact hO
  refine e_X9_mostCalm ⟨fun q => d_prepare r2 r4 (fun h1 f A X => w_X9_mostCalm_35 ⟨fun z => absurd q z, fun _ => d_most hC (by decide) X (w_X9_mostCalm_48 (w_X9_mostCalm_59 ⟨_, rfl, ?_⟩))⟩), fun q => d_hasChild r2.1 hC (w_X9_mostCalm_13 ⟨fun z => ?_, fun z => ⟨_, rfl, ?_⟩⟩)⟩
  · refine e_X10_mostCalm ⟨fun _ => c_layCalm (by decide) (mNf h1 f) (mOf h1 f) (fun h2 f2 _ => w_X10_mostCalm_22 ⟨fun z => absurd q z, fun _ => ⟨?_, C, D, RR_mt R f f2⟩⟩), fun z => absurd q z⟩
    rw [okB_f f]
  · rw [bI_n0] at z
    obtain ⟨c, hc, e⟩ := ixB_of (by omega) z
    subst e
    refine d_prepare r2 r4 (fun h1 f A X => w_X9_mostCalm_35 ⟨fun _ => d_dummyFor hC hD hc A X (w_X9_mostCalm_59 ⟨_, rfl, ?_⟩), fun y => absurd y q⟩)
    refine e_X10_mostCalm ⟨fun y => absurd y q, fun _ => c_isChild (mNf h1 f) (w_X10_mostCalm_10 ⟨fun _ => c_layCalm (by decide) (mNf h1 f) (mOf h1 f) (fun h2 f2 e2 => w_X10_mostCalm_22 ⟨fun _ => ⟨vp_in_nI (by omega) (by decide), ?_, C, D, RR_mt R f f2⟩, fun y => absurd y q⟩), fun y => ?_⟩)⟩
    · rw [nI_clamp (by omega), e2 c hc, okB_f f]
    · rw [bI_0, z] at y
      cases y
  · rw [bI_0] at z
    refine e_X10_mostCalm ⟨fun y => absurd y q, fun _ => c_isChild r1 (w_X10_mostCalm_10 ⟨fun y => ?_, fun _ => ⟨rfl, J⟩⟩)⟩
    rw [bI_n0, z] at y
    cases y
theorem nI_1s {d : Nat} (hd : d < 6) : nI 1 <<< (nI d &&& 31) = nI (bt 0 d) := by
  rcases (show d = 0 ∨ d = 1 ∨ d = 2 ∨ d = 3 ∨ d = 4 ∨ d = 5 by omega) with rfl | rfl | rfl | rfl | rfl | rfl <;> decide
theorem sim_spares {x : Int32} (I : Inv h) : SM G mX9_spares mX10_spares [.int x] h := by
  have J := I
  obtain ⟨C, D, R⟩ := I
  have R' := R
  obtain ⟨r1, r2, r3, r4, -, -, -, -, -, -⟩ := R'
  have hN := r1
  obtain ⟨eC, hC, eD, hD⟩ := hN
  have hO := mO_of r2
  have mNf : ∀ h1, fM h h1 → mN h1 C D := fun h1 f => by unfold mN at r1 ⊢; rw [f 61 (by decide) (by decide) (by omega)]; exact r1
  have mOf : ∀ h1, fM h h1 → mO h1 C D := fun h1 f => by unfold mO at hO ⊢; rw [f 67 (by decide) (by decide) (by omega)]; exact hO
  refine e_X9_spares (d_hasDummy r2.2.2.1 hD (w_X9_spares_8 ⟨fun z => ?_, fun z => ⟨_, rfl, ?_⟩⟩))
  · rw [bI_n0] at z
    obtain ⟨d, hd, e⟩ := ixB_of (by omega) z
    subst e
    have hb : bt 0 d < 64 := bt_lt (by decide) (by omega)
    refine d_prepare r2 r4 (fun h1 f A X => w_X9_spares_30 (d_most hC (by decide) X (w_X9_spares_38 ?_)))
    rw [nI_1s (by omega)]
    refine d_most hC hb X (w_X9_spares_48 ⟨_, rfl, ?_⟩)
    refine e_X10_spares (c_isDummy (mNf h1 f) (w_X10_spares_5 ⟨fun y => ?_, fun _ => c_layCalm (by decide) (mNf h1 f) (mOf h1 f) (fun h2 f2 _ => w_X10_spares_14 ?_)⟩))
    · rw [bI_0, z] at y
      cases y
    · rw [nI_1s (by omega)]
      have hN2 : mN h2 C D := by have := mNf h1 f; unfold mN at this ⊢; rw [f2 61 (by decide) (by decide)]; exact this
      have hO2 : mO h2 C D := by have := mOf h1 f; unfold mO at this ⊢; rw [f2 67 (by decide) (by decide)]; exact this
      refine c_layCalm hb hN2 hO2 (fun h3 f3 _ => w_X10_spares_22 ⟨?_, C, D, RR_mt R f (fun a x1 x2 => (f3 a x1 x2).trans (f2 a x1 x2))⟩)
      have e2 : okB h2 C (!decide (nI 0 = 0)) = okB h1 C (!decide (nI 0 = 0)) := by
        funext c d
        exact okB_cg (fun a x1 x2 => f2 a (by omega) (by omega)) _ c d
      rw [e2, okB_f f]
  · rw [bI_0] at z
    refine e_X10_spares (c_isDummy r1 (w_X10_spares_5 ⟨fun _ => ⟨rfl, J⟩, fun y => ?_⟩))
    rw [bI_n0, z] at y
    cases y
end S9
