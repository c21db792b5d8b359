/-! clauses, pure, and the class's reader of them -/
abbrev chL : Type := List (Nat × Nat)
abbrev dmL : Type := List (Nat × Nat × Nat × Nat)
def ow (ds : dmL) (d : Nat) : Nat := (ds.getD d (0, 0, 0, 9)).2.2.2
def ownI (ds : dmL) (c : Nat) : Int32 := laF (fun d => decide (ow ds d = c)) ds.length
def OW (t : Nat → Nat) (L i : Nat) (cs : chL) (ds : dmL) : Except (Nat × Nat) (Nat × Nat) := match NR t L i 0 999 with
  | .error e => .error e
  | .ok vp => if vp.1 = 9 then .ok vp else if cs.length ≤ vp.1 then .error (2, sk t L i) else if ownI ds vp.1 = -1 then .ok vp else .error (4, sk t L i)
def CLc (t : Nat → Nat) (L p : Nat) (cs : chL) (ds : dmL) : Except (Nat × Nat) (Nat × chL × dmL) :=
  if cs.length = 6 then .error (3, p) else match NR t L (p + 1) 0 3 with
  | .error e => .error e
  | .ok a => match NR t L a.2 0 60 with
    | .error e => .error e
    | .ok b => match SC t L b.2 with
      | .error e => .error e
      | .ok q => .ok (q, cs ++ [(a.1, b.1)], ds)
def CLd (t : Nat → Nat) (L p : Nat) (cs : chL) (ds : dmL) : Except (Nat × Nat) (Nat × chL × dmL) :=
  if ds.length = 6 then .error (3, p) else match NR t L (p + 1) 0 9 with
  | .error e => .error e
  | .ok a => match NR t L a.2 0 3 with
    | .error e => .error e
    | .ok b => match NR t L b.2 0 30 with
      | .error e => .error e
      | .ok c => match OW t L c.2 cs ds with
        | .error e => .error e
        | .ok o => match SC t L o.2 with
          | .error e => .error e
          | .ok q => .ok (q, cs, ds ++ [(a.1, b.1, c.1, o.1)])
def CL (t : Nat → Nat) (L p : Nat) (cs : chL) (ds : dmL) : Except (Nat × Nat) (Nat × chL × dmL) :=
  if t p = 99 then CLc t L p cs ds else if t p = 100 then CLd t L p cs ds else .error (if t p = 110 then 3 else 1, p)
/-- what a draft may hold -/
def VD (cs : chL) (ds : dmL) : Prop := cs.length ≤ 6 ∧ ds.length ≤ 6 ∧ (∀ x ∈ cs, x.1 ≤ 3 ∧ x.2 ≤ 60) ∧ ∀ x ∈ ds, x.1 ≤ 9 ∧ x.2.1 ≤ 3 ∧ x.2.2.1 ≤ 30 ∧ (x.2.2.2 = 9 ∨ x.2.2.2 < cs.length)
theorem OW_pos {t : Nat → Nat} {L i : Nat} {cs : chL} {ds : dmL} {o : Nat × Nat} (hi : i ≤ L) (h : OW t L i cs ds = .ok o) : i ≤ o.2 ∧ o.2 ≤ L ∧ o.1 ≤ 999 ∧ (o.1 = 9 ∨ (o.1 < cs.length ∧ ownI ds o.1 = -1)) := by
  unfold OW at h
  cases hN : NR t L i 0 999 with
  | error e => rw [hN] at h; cases h
  | ok vp =>
    rw [hN] at h
    dsimp only at h
    have := NR_pos hi (show NR t L i 0 999 = .ok (vp.1, vp.2) from hN)
    by_cases q : vp.1 = 9
    · rw [if_pos q] at h
      cases h
      exact ⟨by omega, by omega, by omega, Or.inl q⟩
    · rw [if_neg q] at h
      by_cases q2 : cs.length ≤ vp.1
      · rw [if_pos q2] at h; cases h
      · rw [if_neg q2] at h
        by_cases q3 : ownI ds vp.1 = -1
        · rw [if_pos q3] at h
          cases h
          exact ⟨by omega, by omega, by omega, Or.inr ⟨by omega, q3⟩⟩
        · rw [if_neg q3] at h; cases h
theorem CL_ok {t : Nat → Nat} {L p : Nat} {cs cs' : chL} {ds ds' : dmL} {p' : Nat} (hp : p < L) (hV : VD cs ds) (h : CL t L p cs ds = .ok (p', cs', ds')) : p < p' ∧ p' ≤ L ∧ VD cs' ds' := by
  obtain ⟨v1, v2, v3, v4⟩ := hV
  unfold CL at h
  by_cases q : t p = 99
  · rw [if_pos q] at h
    unfold CLc at h
    by_cases q2 : cs.length = 6
    · rw [if_pos q2] at h; cases h
    · rw [if_neg q2] at h
      cases hA : NR t L (p + 1) 0 3 with
      | error e => rw [hA] at h; cases h
      | ok a =>
        rw [hA] at h
        dsimp only at h
        have a1 := NR_pos (show p + 1 ≤ L by omega) (show NR t L (p + 1) 0 3 = .ok (a.1, a.2) from hA)
        cases hB : NR t L a.2 0 60 with
        | error e => rw [hB] at h; cases h
        | ok b =>
          rw [hB] at h
          dsimp only at h
          have b1 := NR_pos (show a.2 ≤ L by omega) (show NR t L a.2 0 60 = .ok (b.1, b.2) from hB)
          cases hS : SC t L b.2 with
          | error e => rw [hS] at h; cases h
          | ok r =>
            rw [hS] at h
            dsimp only at h
            have s1 := SC_pos (show b.2 ≤ L by omega) hS
            cases h
            refine ⟨by omega, by omega, by rw [List.length_append]; show cs.length + 1 ≤ 6; omega, v2, fun x hx => ?_, fun x hx => ?_⟩
            · rcases List.mem_append.mp hx with z | z
              · exact v3 x z
              · rw [List.mem_singleton.mp z]
                dsimp only
                omega
            · have := v4 x hx
              rw [List.length_append]
              refine ⟨this.1, this.2.1, this.2.2.1, ?_⟩
              rcases this.2.2.2 with z | z
              · exact Or.inl z
              · exact Or.inr (by omega)
  · rw [if_neg q] at h
    by_cases q1 : t p = 100
    · rw [if_pos q1] at h
      unfold CLd at h
      by_cases q2 : ds.length = 6
      · rw [if_pos q2] at h; cases h
      · rw [if_neg q2] at h
        cases hA : NR t L (p + 1) 0 9 with
        | error e => rw [hA] at h; cases h
        | ok a =>
          rw [hA] at h
          dsimp only at h
          have a1 := NR_pos (show p + 1 ≤ L by omega) (show NR t L (p + 1) 0 9 = .ok (a.1, a.2) from hA)
          cases hB : NR t L a.2 0 3 with
          | error e => rw [hB] at h; cases h
          | ok b =>
            rw [hB] at h
            dsimp only at h
            have b1 := NR_pos (show a.2 ≤ L by omega) (show NR t L a.2 0 3 = .ok (b.1, b.2) from hB)
            cases hC : NR t L b.2 0 30 with
            | error e => rw [hC] at h; cases h
            | ok c =>
              rw [hC] at h
              dsimp only at h
              have c1 := NR_pos (show b.2 ≤ L by omega) (show NR t L b.2 0 30 = .ok (c.1, c.2) from hC)
              cases hO : OW t L c.2 cs ds with
              | error e => rw [hO] at h; cases h
              | ok o =>
                rw [hO] at h
                dsimp only at h
                have o1 := OW_pos (show c.2 ≤ L by omega) hO
                cases hS : SC t L o.2 with
                | error e => rw [hS] at h; cases h
                | ok r =>
                  rw [hS] at h
                  dsimp only at h
                  have s1 := SC_pos (show o.2 ≤ L by omega) hS
                  cases h
                  refine ⟨by omega, by omega, v1, by rw [List.length_append]; show ds.length + 1 ≤ 6; omega, v3, fun x hx => ?_⟩
                  rcases List.mem_append.mp hx with z | z
                  · exact v4 x z
                  · rw [List.mem_singleton.mp z]
                    dsimp only
                    exact ⟨by omega, by omega, by omega, by omega⟩
    · rw [if_neg q1] at h
      cases h
section RD
variable {G : dh_G} {h : dh_H} {Q : Option Value → dh_H → Prop} {t : Nat → Nat} {L : Nat} {cs : chL} {ds : dmL}
/-- the class's draft -/
def DC (h : dh_H) (cs : chL) (ds : dmL) : Prop :=
  h 11 3 = nI cs.length ∧ h 11 4 = nI ds.length ∧ (∀ c x, cs[c]? = some x → h 12 c = nI x.1 ∧ h 13 c = nI x.2) ∧ (∀ d x, ds[d]? = some x → h 15 d = nI x.1 ∧ h 16 d = nI x.2.1 ∧ h 17 d = nI x.2.2.1 ∧ h 18 d = nI x.2.2.2) ∧ ∀ c, c < cs.length → h 14 c = ownI ds c
/-- nothing but reader and draft has changed -/
def fX (h h1 : dh_H) : Prop := (∀ a, a ≠ 1 → ¬ (11 ≤ a ∧ a ≤ 18) → h1 a = h a) ∧ (∀ k, k = 1 ∨ k = 0 → h1 1 k = h 1 k)
theorem fX_R {h h1 : dh_H} (f : fR h h1) : fX h h1 := ⟨fun a ha _ => f.1 a ha, f.2⟩
theorem fX_tr {h h1 h2 : dh_H} (f : fX h h1) (f2 : fX h1 h2) : fX h h2 := ⟨fun a ha hb => (f2.1 a ha hb).trans (f.1 a ha hb), fun k hk => (f2.2 k hk).trans (f.2 k hk)⟩
theorem fX_s {h h1 : dh_H} (f : fX h h1) {i k : Nat} {x : Int32} (hi : 11 ≤ i ∧ i ≤ 18) : fX h (dh_s h1 i k x) := ⟨fun a ha hb => by rw [dh_s_n (fun e => hb (by rw [e]; exact hi))]; exact f.1 a ha hb, fun j hj => by rw [dh_s_n (by omega)]; exact f.2 j hj⟩
theorem CT_fX {h h1 : dh_H} (c : CT t L h) (f : fX h h1) : CT t L h1 := by
  unfold CT at c ⊢
  rw [f.2 1 (Or.inl rfl), f.1 2 (by decide) (by omega)]
  exact c
theorem DC_fR {h h1 : dh_H} (d : DC h cs ds) (f : fR h h1) : DC h1 cs ds := by
  unfold DC at d ⊢
  rw [f.1 11 (by decide), f.1 12 (by decide), f.1 13 (by decide), f.1 14 (by decide), f.1 15 (by decide), f.1 16 (by decide), f.1 17 (by decide), f.1 18 (by decide)]
  exact d
theorem d_hasChild11 {x : Int32} {n : Nat} (e : h 11 3 = nI n) (hn : n < 2 ^ 31) (k : Q (some (.int (bI (ixB x n)))) h) : dh_C G mX5_hasChild [.ref 11, .int x] h Q := by
  refine e_X5_hasChild_11 ?_
  rw [e]
  exact (d_hasN hn).mpr k
theorem ow_app {x : Nat × Nat × Nat × Nat} {d : Nat} (hd : d < ds.length) : ow (ds ++ [x]) d = ow ds d := by
  unfold ow
  rw [List.getD_eq_getElem?_getD, List.getD_eq_getElem?_getD, List.getElem?_append_left hd]
theorem ow_last {x : Nat × Nat × Nat × Nat} : ow (ds ++ [x]) ds.length = x.2.2.2 := by
  unfold ow
  rw [List.getD_eq_getElem?_getD, List.getElem?_append_right (Nat.le_refl _)]
  simp
theorem laF_congr {f g : Nat → Bool} {n : Nat} (e : ∀ i, i < n → f i = g i) : laF f n = laF g n := by
  induction n with
  | zero => rfl
  | succ k ih => simp only [laF, ih (fun i hi => e i (by omega)), e k (by omega)]
theorem ownI_app (x : Nat × Nat × Nat × Nat) (c : Nat) : ownI (ds ++ [x]) c = if x.2.2.2 = c then nI ds.length else ownI ds c := by
  unfold ownI
  rw [List.length_append]
  show (if decide (ow (ds ++ [x]) ds.length = c) then nI ds.length else laF (fun d => decide (ow (ds ++ [x]) d = c)) ds.length) = _
  rw [ow_last, laF_congr (fun i hi => by rw [ow_app hi])]
  by_cases q : x.2.2.2 = c <;> simp [q]
theorem d_addChild {a b : Nat} (hV : cs.length < 6) (d : DC h cs ds) (hds : ∀ x ∈ ds, x.2.2.2 = 9 ∨ x.2.2.2 < cs.length) (k : ∀ h1, fX h h1 → (∀ j, h1 1 j = h 1 j) → (∀ j, j ≤ 2 → h1 11 j = h 11 j) → DC h1 (cs ++ [(a, b)]) ds → Q none h1) : dh_C G mX5_addChild [.ref 11, .int (nI a), .int (nI b)] h Q := by
  obtain ⟨d1, d2, d3, d4, d5⟩ := d
  refine e_X5_addChild ?_
  rw [d1]
  simp (disch := omega) only [nI_ltI, nI_clamp, nI_add]
  refine ⟨fun _ => ⟨vp_in_nI (by omega) (by omega), vp_in_nI (by omega) (by omega), vp_in_nI (by omega) (by omega), k _ (fX_s (fX_s (fX_s (fX_s (fX_R (fR_rf h)) ⟨by decide, by decide⟩) ⟨by decide, by decide⟩) ⟨by decide, by decide⟩) ⟨by decide, by decide⟩) (fun _ => rfl) (fun j hj => by rw [dh_s_nk (by omega)]; rfl) ⟨?_, d2, fun c x hx => ?_, d4, fun c hc => ?_⟩⟩, fun q => absurd hV q⟩
  · rw [dh_s_eq, List.length_append]
    rfl
  · show dh_s h 12 cs.length (nI a) 12 c = nI x.1 ∧ dh_s h 13 cs.length (nI b) 13 c = nI x.2
    by_cases e : c < cs.length
    · rw [List.getElem?_append_left e] at hx
      rw [dh_s_nk (by omega), dh_s_nk (by omega)]
      exact d3 c x hx
    · rw [List.getElem?_append_right (by omega)] at hx
      have h0 : c - cs.length < 1 := (List.getElem?_eq_some_iff.mp hx).1
      have e2 : c = cs.length := by omega
      subst e2
      rw [Nat.sub_self] at hx
      cases hx
      rw [dh_s_eq, dh_s_eq]
      exact ⟨rfl, rfl⟩
  · show dh_s h 14 cs.length (-1) 14 c = ownI ds c
    rw [List.length_append] at hc
    have hc : c < cs.length + 1 := hc
    by_cases e : c = cs.length
    · subst e
      rw [dh_s_eq]
      unfold ownI
      symm
      refine laF_none (fun i hi => ?_)
      have hx : ds[i]? = some ds[i] := List.getElem?_eq_getElem hi
      have hm := hds ds[i] (List.getElem_mem hi)
      have ei : ow ds i = ds[i].2.2.2 := by unfold ow; rw [List.getD_eq_getElem?_getD, hx]; rfl
      rw [ei]
      simp only [decide_eq_false_iff_not]
      omega
    · rw [dh_s_nk e]
      exact d5 c (by omega)
theorem d_addDummy {a b c o : Nat} (hV : ds.length < 6) (hC : cs.length ≤ 6) (d : DC h cs ds) (ho : o = 9 ∨ o < cs.length) (k : ∀ h1, fX h h1 → (∀ j, h1 1 j = h 1 j) → (∀ j, j ≤ 2 → h1 11 j = h 11 j) → DC h1 cs (ds ++ [(a, b, c, o)]) → Q none h1) : dh_C G mX5_addDummy [.ref 11, .int (nI a), .int (nI b), .int (nI c), .int (nI o)] h Q := by
  obtain ⟨d1, d2, d3, d4, d5⟩ := d
  refine e_X5_addDummy ?_
  rw [d2]
  simp (disch := omega) only [nI_ltI, nI_clamp]
  refine ⟨fun _ => ⟨vp_in_nI (by omega) (by omega), vp_in_nI (by omega) (by omega), vp_in_nI (by omega) (by omega), vp_in_nI (by omega) (by omega), d_hasChild11 (n := cs.length) d1 (by omega) ?_⟩, fun q => absurd hV q⟩
  have f4 : fX h (dh_s (dh_s (dh_s (dh_s h 15 ds.length (nI a)) 16 ds.length (nI b)) 17 ds.length (nI c)) 18 ds.length (nI o)) := fX_s (fX_s (fX_s (fX_s (fX_R (fR_rf h)) ⟨by decide, by decide⟩) ⟨by decide, by decide⟩) ⟨by decide, by decide⟩) ⟨by decide, by decide⟩
  have rows : ∀ i x, (ds ++ [(a, b, c, o)])[i]? = some x → dh_s h 15 ds.length (nI a) 15 i = nI x.1 ∧ dh_s h 16 ds.length (nI b) 16 i = nI x.2.1 ∧ dh_s h 17 ds.length (nI c) 17 i = nI x.2.2.1 ∧ dh_s h 18 ds.length (nI o) 18 i = nI x.2.2.2 := by
    intro i x hx
    by_cases e : i < ds.length
    · rw [List.getElem?_append_left e] at hx
      rw [dh_s_nk (by omega), dh_s_nk (by omega), dh_s_nk (by omega), dh_s_nk (by omega)]
      exact d4 i x hx
    · rw [List.getElem?_append_right (by omega)] at hx
      have h0 : i - ds.length < 1 := (List.getElem?_eq_some_iff.mp hx).1
      have e2 : i = ds.length := by omega
      subst e2
      rw [Nat.sub_self] at hx
      cases hx
      rw [dh_s_eq, dh_s_eq, dh_s_eq, dh_s_eq]
      exact ⟨rfl, rfl, rfl, rfl⟩
  have e114 : dh_s (dh_s (dh_s (dh_s h 15 ds.length (nI a)) 16 ds.length (nI b)) 17 ds.length (nI c)) 18 ds.length (nI o) 11 4 = nI ds.length := d2
  refine w_X5_addDummy_57 ?_
  rw [e114, nI_add]
  refine ⟨fun q => k _ (fX_s f4 ⟨by decide, by decide⟩) (fun _ => rfl) (fun j hj => by rw [dh_s_nk (by omega)]; rfl) ⟨d1, ?_, d3, rows, fun c' hc' => ?_⟩, fun q => ?_⟩
  · rw [dh_s_eq, List.length_append]
    rfl
  · rw [bI_0, ixB_nI (by omega)] at q
    have q2 : ¬ o < cs.length := by simpa using q
    rw [ownI_app, if_neg (by dsimp only; omega)]
    exact d5 c' hc'
  · rw [bI_n0, ixB_nI (by omega)] at q
    have q2 : o < cs.length := by simpa using q
    simp (disch := omega) only [nI_clamp]
    refine ⟨vp_in_nI (by omega) (by omega), k _ (fX_s (fX_s f4 ⟨by decide, by decide⟩) ⟨by decide, by decide⟩) (fun _ => rfl) (fun j hj => by rw [dh_s_nk (by omega)]; rfl) ⟨d1, ?_, d3, rows, fun c' hc' => ?_⟩⟩
    · rw [dh_s_eq, List.length_append]
      rfl
    · show dh_s h 14 o (nI ds.length) 14 c' = ownI (ds ++ [(a, b, c, o)]) c'
      rw [ownI_app]
      by_cases e : o = c'
      · subst e
        rw [if_pos rfl, dh_s_eq]
      · rw [if_neg e, dh_s_nk (fun z => e z.symm)]
        exact d5 c' hc'
theorem d_readOwner {i : Nat} (hV : VD cs ds) (c : CT t L h) (s : ST L h i) (d : DC h cs ds)
    (kE : ∀ k a v h1, OW t L i cs ds = .error (k, a) → fR h h1 → FT L h1 k a → Q (some (.int v)) h1)
    (kO : ∀ v p h1, OW t L i cs ds = .ok (v, p) → fR h h1 → ST L h1 p → h1 1 5 = h 1 5 → Q (some (.int (nI v))) h1) : dh_C G mX6_readOwner [.ref 1, .ref 11] h Q := by
  refine e_X6_readOwner (d_readNumber c s (by omega) (by omega) (fun k a v h1 e f F => w_X6_readOwner_8 ⟨fun _ => kE k a v h1 (by unfold OW; rw [e]) f F, fun z => absurd z (FT_4 F)⟩) (fun v p h1 e f S e3 e5 => w_X6_readOwner_8 ⟨fun z => absurd S.2.2 z, fun _ => ⟨fun q => ?_, fun q => ?_⟩⟩))
  · have hv := NR_pos s.2.1 e
    have q9 : ¬ v = 9 := fun z => q (by rw [z])
    have d' := DC_fR d f
    have hC := hV.1
    have bad : ∀ k, (k = 2 ∨ k = 4) → OW t L i cs ds = .error (k, sk t L i) → FT L (dh_s (dh_s h1 1 4 (nI k)) 1 5 (nI (sk t L i))) k (sk t L i) := fun k hk _ => ⟨⟨p, by rw [dh_s_nk (by decide), dh_s_nk (by decide)]; exact S.1, S.2.1⟩, by rw [dh_s_nk (by decide), dh_s_eq], by omega, by omega, dh_s_eq _ _ _ _⟩
    refine d_hasChild11 d'.1 (by omega) (w_X6_readOwner_29 ⟨fun z => ?_, fun z => ?_⟩)
    · rw [bI_n0, ixB_nI (by omega)] at z
      have z : v < cs.length := by simpa using z
      simp (disch := omega) only [nI_clamp]
      rw [d'.2.2.2.2 v z, e3]
      refine ⟨vp_in_nI (by omega) (by omega), fun y => w_X6_readOwner_63 (kO v p h1 ?_ f S e5), fun y => ?_⟩
      · unfold OW
        rw [e]
        dsimp only
        rw [if_neg q9, if_neg (by omega), if_pos y]
      · have eo : OW t L i cs ds = .error (4, sk t L i) := by
          unfold OW
          rw [e]
          dsimp only
          rw [if_neg q9, if_neg (by omega), if_neg y]
        exact d_fail S.2.2 (w_X6_readOwner_63 (kE 4 _ _ _ eo (fR_s (fR_s f (by decide)) (by decide)) (bad 4 (Or.inr rfl) eo)))
    · rw [bI_0, ixB_nI (by omega)] at z
      have z : ¬ v < cs.length := by simpa using z
      have eo : OW t L i cs ds = .error (2, sk t L i) := by
        unfold OW
        rw [e]
        dsimp only
        rw [if_neg q9, if_pos (by omega)]
      rw [e3]
      exact d_fail S.2.2 (w_X6_readOwner_41 (w_X6_readOwner_63 (kE 2 _ _ _ eo (fR_s (fR_s f (by decide)) (by decide)) (bad 2 (Or.inl rfl) eo))))
  · have hv := NR_pos s.2.1 e
    rw [nI_eq (by omega) (by decide)] at q
    refine kO v p h1 ?_ f S e5
    unfold OW
    rw [e]
    dsimp only
    rw [if_pos q]
theorem ST_up {p : Nat} (s : ST L h p) (hp : p < L) : ST L (dh_s h 1 2 (nI (p + 1))) (p + 1) := ⟨dh_s_eq _ _ _ _, hp, s.2.2⟩
/-- behind a fault the rest of a clause reads nothing -/
theorem d_readChild {p : Nat} (hV : VD cs ds) (c : CT t L h) (s : ST L h p) (hp : p < L) (d : DC h cs ds)
    (kE : ∀ k a h1, CLc t L p cs ds = .error (k, a) → fX h h1 → FT L h1 k a → Q none h1)
    (kO : ∀ p' cs' ds' h1, CLc t L p cs ds = .ok (p', cs', ds') → fX h h1 → ST L h1 p' → DC h1 cs' ds' → h1 1 5 = h 1 5 → (∀ j, j ≤ 2 → h1 11 j = h 11 j) → Q none h1) : dh_C G mX6_readChild [.ref 1, .ref 11] h Q := by
  have hC := hV.1
  refine e_X6_readChild ?_
  rw [d.1, s.1, nI_add, nI_ltI (by omega) (by decide)]
  refine ⟨fun q => ?_, fun q => ?_⟩
  · have q6 : ¬ cs.length = 6 := by omega
    have f0 : fR h (dh_s h 1 2 (nI (p + 1))) := fR_s (fR_rf h) (by decide)
    refine d_readNumber (t := t) (L := L) (CT_fR c f0) (ST_up s hp) (by omega) (by omega) (fun k a v h1 e f F => ?_) (fun v1 p1 h1 e1 f1 S1 _ e15 => ?_)
    · refine w_X6_readChild_35 (d_readNumber_f (FT_4 F) (w_X6_readChild_43 (d_readSemicolon_f (FT_4 F) (w_X6_readChild_48 ⟨fun _ => w_X6_readChild_61 (kE k a h1 ?_ (fX_R (fR_tr f0 f)) F), fun z => absurd z (FT_4 F)⟩))))
      unfold CLc
      rw [if_neg q6, e]
    · have F1 := fR_tr f0 f1
      refine w_X6_readChild_35 (d_readNumber (CT_fR c F1) S1 (by omega) (by omega) (fun k a v h2 e f F => ?_) (fun v2 p2 h2 e2 f2 S2 _ e25 => ?_))
      · refine w_X6_readChild_43 (d_readSemicolon_f (FT_4 F) (w_X6_readChild_48 ⟨fun _ => w_X6_readChild_61 (kE k a h2 ?_ (fX_R (fR_tr F1 f)) F), fun z => absurd z (FT_4 F)⟩))
        unfold CLc
        rw [if_neg q6, e1]
        dsimp only
        rw [e]
      · have F2 := fR_tr F1 f2
        refine w_X6_readChild_43 (d_readSemicolon (CT_fR c F2) S2 (fun k a h3 e f F => ?_) (fun p3 h3 e3 f3 S3 e35 => ?_))
        · refine w_X6_readChild_48 ⟨fun _ => w_X6_readChild_61 (kE k a h3 ?_ (fX_R (fR_tr F2 f)) F), fun z => absurd z (FT_4 F)⟩
          unfold CLc
          rw [if_neg q6, e1]
          dsimp only
          rw [e2]
          dsimp only
          rw [e]
        · have F3 := fR_tr F2 f3
          refine w_X6_readChild_48 ⟨fun z => absurd S3.2.2 z, fun _ => d_addChild q (DC_fR d F3) (fun x hx => (hV.2.2.2 x hx).2.2.2) (fun h4 f4 g4 g11 D4 => w_X6_readChild_61 (kO p3 _ _ h4 ?_ (fX_tr (fX_R F3) f4) ⟨by rw [g4]; exact S3.1, S3.2.1, by rw [g4]; exact S3.2.2⟩ D4 ?_ (fun j hj => by rw [g11 j hj, F3.1 11 (by decide)])))⟩
          · unfold CLc
            rw [if_neg q6, e1]
            dsimp only
            rw [e2]
            dsimp only
            rw [e3]
          · rw [g4, e35, e25, e15]
            rfl
  · refine d_fail s.2.2 (w_X6_readChild_18 (kE 3 p _ ?_ (fX_R (fR_s (fR_s (fR_rf h) (by decide)) (by decide))) ⟨⟨p, ?_, s.2.1⟩, ?_, by decide, by decide, dh_s_eq _ _ _ _⟩))
    · unfold CLc
      rw [if_pos (by omega)]
    · rw [dh_s_nk (by decide), dh_s_nk (by decide)]
      exact s.1
    · rw [dh_s_nk (by decide), dh_s_eq]
theorem d_readDummy {p : Nat} (hV : VD cs ds) (c : CT t L h) (s : ST L h p) (hp : p < L) (d : DC h cs ds)
    (kE : ∀ k a h1, CLd t L p cs ds = .error (k, a) → fX h h1 → FT L h1 k a → Q none h1)
    (kO : ∀ p' cs' ds' h1, CLd t L p cs ds = .ok (p', cs', ds') → fX h h1 → ST L h1 p' → DC h1 cs' ds' → h1 1 5 = h 1 5 → (∀ j, j ≤ 2 → h1 11 j = h 11 j) → Q none h1) : dh_C G mX6_readDummy [.ref 1, .ref 11] h Q := by
  have hC := hV.1
  have hD := hV.2.1
  refine e_X6_readDummy ?_
  rw [d.2.1, s.1, nI_add, nI_ltI (by omega) (by decide)]
  refine ⟨fun q => ?_, fun q => ?_⟩
  · have q6 : ¬ ds.length = 6 := by omega
    have f0 : fR h (dh_s h 1 2 (nI (p + 1))) := fR_s (fR_rf h) (by decide)
    -- behind a fault
    have bad4 : ∀ x2 x3 x4 s0 h1 k a, CLd t L p cs ds = .error (k, a) → fX h h1 → FT L h1 k a → dh_J G mX6_readDummy 58 [some (.ref 1), some (.ref 11), some (.int x2), some (.int x3), some (.int x4), none] [.int s0] h1 Q := fun x2 x3 x4 s0 h1 k a e f F => w_X6_readDummy_58 (d_readSemicolon_f (FT_4 F) (w_X6_readDummy_64 ⟨fun _ => w_X6_readDummy_81 (kE k a h1 e f F), fun z => absurd z (FT_4 F)⟩))
    have own_f : ∀ x2 x3 x4 h1 k a, CLd t L p cs ds = .error (k, a) → fX h h1 → FT L h1 k a → dh_J G mX6_readDummy 51 [some (.ref 1), some (.ref 11), some (.int x2), some (.int x3), none, none] [.int x4] h1 Q := fun x2 x3 x4 h1 k a e f F => w_X6_readDummy_51 (e_X6_readOwner (d_readNumber_f (FT_4 F) (w_X6_readOwner_8 ⟨fun _ => bad4 _ _ _ _ h1 k a e f F, fun z => absurd z (FT_4 F)⟩)))
    refine d_readNumber (t := t) (L := L) (CT_fR c f0) (ST_up s hp) (by omega) (by omega) (fun k a v h1 e f F => ?_) (fun v1 p1 h1 e1 f1 S1 _ e15 => ?_)
    · refine w_X6_readDummy_36 (d_readNumber_f (FT_4 F) (w_X6_readDummy_43 (d_readNumber_f (FT_4 F) (own_f _ _ _ h1 k a ?_ (fX_R (fR_tr f0 f)) F))))
      unfold CLd
      rw [if_neg q6, e]
    · have F1 := fR_tr f0 f1
      refine w_X6_readDummy_36 (d_readNumber (CT_fR c F1) S1 (by omega) (by omega) (fun k a v h2 e f F => ?_) (fun v2 p2 h2 e2 f2 S2 _ e25 => ?_))
      · refine w_X6_readDummy_43 (d_readNumber_f (FT_4 F) (own_f _ _ _ h2 k a ?_ (fX_R (fR_tr F1 f)) F))
        unfold CLd
        rw [if_neg q6, e1]
        dsimp only
        rw [e]
      · have F2 := fR_tr F1 f2
        refine w_X6_readDummy_43 (d_readNumber (CT_fR c F2) S2 (by omega) (by omega) (fun k a v h3 e f F => ?_) (fun v3 p3 h3 e3 f3 S3 _ e35 => ?_))
        · refine own_f _ _ _ h3 k a ?_ (fX_R (fR_tr F2 f)) F
          unfold CLd
          rw [if_neg q6, e1]
          dsimp only
          rw [e2]
          dsimp only
          rw [e]
        · have F3 := fR_tr F2 f3
          refine w_X6_readDummy_51 (d_readOwner hV (CT_fR c F3) S3 (DC_fR d F3) (fun k a v h4 e f F => ?_) (fun v4 p4 h4 e4 f4 S4 e45 => ?_))
          · refine bad4 _ _ _ _ h4 k a ?_ (fX_R (fR_tr F3 f)) F
            unfold CLd
            rw [if_neg q6, e1]
            dsimp only
            rw [e2]
            dsimp only
            rw [e3]
            dsimp only
            rw [e]
          · have F4 := fR_tr F3 f4
            have op := OW_pos S3.2.1 e4
            dsimp only at op
            refine w_X6_readDummy_58 (d_readSemicolon (CT_fR c F4) S4 (fun k a h5 e f F => ?_) (fun p5 h5 e5 f5 S5 e55 => ?_))
            · refine w_X6_readDummy_64 ⟨fun _ => w_X6_readDummy_81 (kE k a h5 ?_ (fX_R (fR_tr F4 f)) F), fun z => absurd z (FT_4 F)⟩
              unfold CLd
              rw [if_neg q6, e1]
              dsimp only
              rw [e2]
              dsimp only
              rw [e3]
              dsimp only
              rw [e4]
              dsimp only
              rw [e]
            · have F5 := fR_tr F4 f5
              refine w_X6_readDummy_64 ⟨fun z => absurd S5.2.2 z, fun _ => d_addDummy q hC (DC_fR d F5) (by omega) (fun h6 f6 g6 g11 D6 => w_X6_readDummy_81 (kO p5 _ _ h6 ?_ (fX_tr (fX_R F5) f6) ⟨by rw [g6]; exact S5.1, S5.2.1, by rw [g6]; exact S5.2.2⟩ D6 ?_ (fun j hj => by rw [g11 j hj, F5.1 11 (by decide)])))⟩
              · unfold CLd
                rw [if_neg q6, e1]
                dsimp only
                rw [e2]
                dsimp only
                rw [e3]
                dsimp only
                rw [e4]
                dsimp only
                rw [e5]
              · rw [g6, e55, e45, e35, e25, e15]
                rfl
  · refine d_fail s.2.2 (w_X6_readDummy_18 (kE 3 p _ ?_ (fX_R (fR_s (fR_s (fR_rf h) (by decide)) (by decide))) ⟨⟨p, ?_, s.2.1⟩, ?_, by decide, by decide, dh_s_eq _ _ _ _⟩))
    · unfold CLd
      rw [if_pos (by omega)]
    · rw [dh_s_nk (by decide), dh_s_nk (by decide)]
      exact s.1
    · rw [dh_s_nk (by decide), dh_s_eq]
theorem d_readClause {p : Nat} (hV : VD cs ds) (c : CT t L h) (s : ST L h p) (hp : p < L) (d : DC h cs ds)
    (kE : ∀ k a h1, CL t L p cs ds = .error (k, a) → fX h h1 → FT L h1 k a → Q none h1)
    (kO : ∀ p' cs' ds' h1, CL t L p cs ds = .ok (p', cs', ds') → fX h h1 → ST L h1 p' → DC h1 cs' ds' → h1 1 5 = h 1 5 → (∀ j, j ≤ 2 → h1 11 j = h 11 j) → Q none h1) : dh_C G mX6_readClause [.ref 1, .ref 11] h Q := by
  have ht := (c.2.2 p hp).2
  refine e_X6_readClause (d_letterHere c s.2.1 s.1 ?_)
  have el : lt t L p = nI (t p) := by unfold lt; rw [if_pos hp]
  rw [el]
  have bad : ∀ k, (k = 1 ∨ k = 3) → CL t L p cs ds = .error (k, p) → dh_C G mX6_fail [.ref 1, .int (nI k), .int (h 1 2)] h (fun v h1 => dh_J G mX6_readClause 52 [none, none, none] (v.toList ++ []) h1 Q) := by
    intro k hk e
    rw [s.1]
    refine d_fail s.2.2 (w_X6_readClause_52 (kE k p _ e (fX_R (fR_s (fR_s (fR_rf h) (by decide)) (by decide))) ⟨⟨p, ?_, s.2.1⟩, ?_, by omega, by omega, dh_s_eq _ _ _ _⟩))
    · rw [dh_s_nk (by decide), dh_s_nk (by decide)]
      exact s.1
    · rw [dh_s_nk (by decide), dh_s_eq]
  refine w_X6_readClause_4 ?_
  rw [nI_eq (by omega) (by decide), nI_eq (by omega) (by decide), nI_eq (by omega) (by decide)]
  refine ⟨fun q1 => ⟨fun q2 => ⟨fun q3 => bad 1 (Or.inl rfl) ?_, fun q3 => bad 3 (Or.inr rfl) ?_⟩, fun q2 => d_readDummy hV c s hp d (fun k a h1 e f F => w_X6_readClause_30 (w_X6_readClause_52 (kE k a h1 ?_ f F))) (fun p' cs' ds' h1 e f S D e5 g => w_X6_readClause_30 (w_X6_readClause_52 (kO p' cs' ds' h1 ?_ f S D e5 g)))⟩, fun q1 => d_readChild hV c s hp d (fun k a h1 e f F => w_X6_readClause_16 (w_X6_readClause_52 (kE k a h1 ?_ f F))) (fun p' cs' ds' h1 e f S D e5 g => w_X6_readClause_16 (w_X6_readClause_52 (kO p' cs' ds' h1 ?_ f S D e5 g)))⟩
  · unfold CL
    rw [if_neg q1, if_neg q2, if_neg q3]
  · unfold CL
    rw [if_neg q1, if_neg q2, if_pos q3]
  · unfold CL
    rw [if_neg q1, if_pos q2]
    exact e
  · unfold CL
    rw [if_neg q1, if_pos q2]
    exact e
  · unfold CL
    rw [if_pos q1]
    exact e
  · unfold CL
    rw [if_pos q1]
    exact e
end RD
