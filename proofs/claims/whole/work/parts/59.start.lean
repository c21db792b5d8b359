/-! the start: both objects made, the world as the layout has it -/
def l_h0 : dh_H := fun i => if i = 1 then (fun k => if k = 5 then -1 else 0) else if i = 61 then (fun k => if k = 7 then -1 else 0) else fun _ => 0
theorem l_Inv0 : Inv l_h0 := by
  have W0 : ∀ w n : Nat → Int32, w 0 = n 0 → n 19 = nI 0 → WV w n 0 0 := fun w n h1 h2 => ⟨h1, fun d hd => absurd hd (by omega), fun d c hd => absurd hd (by omega), fun c hc => absurd hc (by omega), h2, fun d hd => absurd hd (by omega), fun c hc => absurd hc (by omega)⟩
  refine ⟨0, 0, ⟨by decide, by decide, by decide, by decide⟩, ⟨by decide, by decide, by decide, by decide, fun c hc => absurd hc (by omega), fun d hd => absurd hd (by omega)⟩, ⟨by decide, Or.inl (by decide), ⟨by decide, by decide⟩, by decide, 0, by decide, by decide⟩, W0 _ _ (by decide) (by decide), ⟨0, 0, by decide, by decide, by decide, by decide, by decide, fun j hj => absurd hj (by omega)⟩, ⟨0, by decide, by decide, by decide⟩, ⟨⟨by decide, Or.inl (by decide), fun z => absurd z (by decide)⟩, ⟨by decide, Or.inl (by decide), fun z => absurd z (by decide)⟩⟩, ⟨0, by decide, by decide, by decide, fun k hk => absurd hk (by omega)⟩, ⟨0, by decide, by decide, by decide, fun k hk => absurd hk (by omega)⟩, ⟨0, by decide, by decide, by decide, fun k hk => absurd hk (by omega), by decide⟩⟩
theorem l_cls0 {s : State} {b : Nat} (htc : ∀ w ∈ dh_cw, w.before #[Value.ref b] s = true) : ∀ k : Nat, ∃ (cC : ClassId) (iS : Nat → Nat), ∀ q : vw_C, vwCl[k]? = some q → u_Kn s q.1 q.2.1 q.2.2 cC iS
  | 0 => by
    obtain ⟨cC, iS, hk⟩ := u_known (C := RX0) (T := TX0) (N := 3) (n := 3) htc inC0 (htc (.instantiable RX0 3) (dh_in 235 (by decide +kernel) rfl))
    exact ⟨cC, iS, fun q hq => by cases hq; exact hk⟩
  | 1 => by
    obtain ⟨cC, iS, hk⟩ := u_known (C := RX1) (T := TX1) (N := 1) (n := 1) htc inC1 (htc (.instantiable RX1 1) (dh_in 252 (by decide +kernel) rfl))
    exact ⟨cC, iS, fun q hq => by cases hq; exact hk⟩
  | 2 => by
    obtain ⟨cC, iS, hk⟩ := u_known (C := RX2) (T := TX2) (N := 3) (n := 3) htc inC2 (htc (.instantiable RX2 3) (dh_in 265 (by decide +kernel) rfl))
    exact ⟨cC, iS, fun q hq => by cases hq; exact hk⟩
  | 3 => by
    obtain ⟨cC, iS, hk⟩ := u_known (C := RX3) (T := TX3) (N := 4) (n := 4) htc inC3 (htc (.instantiable RX3 4) (dh_in 173 (by decide +kernel) rfl))
    exact ⟨cC, iS, fun q hq => by cases hq; exact hk⟩
  | 4 => by
    obtain ⟨cC, iS, hk⟩ := u_known (C := RX4) (T := TX4) (N := 3) (n := 3) htc inC4 (htc (.instantiable RX4 3) (dh_in 156 (by decide +kernel) rfl))
    exact ⟨cC, iS, fun q hq => by cases hq; exact hk⟩
  | 5 => by
    obtain ⟨cC, iS, hk⟩ := u_known (C := RX5) (T := TX5) (N := 12) (n := 12) htc inC5 (htc (.instantiable RX5 12) (dh_in 53 (by decide +kernel) rfl))
    exact ⟨cC, iS, fun q hq => by cases hq; exact hk⟩
  | 6 => by
    obtain ⟨cC, iS, hk⟩ := u_known (C := RX6) (T := TX6) (N := 6) (n := 6) htc inC6 (htc (.instantiable RX6 6) (dh_in 24 (by decide +kernel) rfl))
    exact ⟨cC, iS, fun q hq => by cases hq; exact hk⟩
  | 7 => by
    obtain ⟨cC, iS, hk⟩ := u_known (C := RX7) (T := TX7) (N := 10) (n := 10) htc inC7 (htc (.instantiable RX7 10) (dh_in 194 (by decide +kernel) rfl))
    exact ⟨cC, iS, fun q hq => by cases hq; exact hk⟩
  | 8 => by
    obtain ⟨cC, iS, hk⟩ := u_known (C := RX8) (T := TX8) (N := 7) (n := 7) htc inC8 (htc (.instantiable RX8 7) (dh_in 122 (by decide +kernel) rfl))
    exact ⟨cC, iS, fun q hq => by cases hq; exact hk⟩
  | 9 => by
    obtain ⟨cC, iS, hk⟩ := u_known (C := RX9) (T := TX9) (N := 11) (n := 11) htc inC9 (htc (.instantiable RX9 11) (dh_in 16 (by decide +kernel) rfl))
    exact ⟨cC, iS, fun q hq => by cases hq; exact hk⟩
  | 10 => by
    obtain ⟨cC, iS, hk⟩ := u_known (C := RX10) (T := TX10) (N := 39) (n := 39) htc inC10 (htc (.instantiable RX10 39) (dh_in 755 (by decide +kernel) rfl))
    exact ⟨cC, iS, fun q hq => by cases hq; exact hk⟩
  | k + 11 => ⟨0, fun _ => 0, fun q hq => by simp [vwCl] at hq⟩
theorem l_cls {s : State} {b : Nat} (htc : ∀ w ∈ dh_cw, w.before #[Value.ref b] s = true) : ∃ (dC : Nat → ClassId) (dI : Nat → Nat → Nat), ∀ (k : Nat) (q : vw_C), vwCl[k]? = some q → u_Kn s q.1 q.2.1 q.2.2 (dC k) (dI k) :=
  ⟨fun k => Classical.choose (l_cls0 htc k), fun k => Classical.choose (Classical.choose_spec (l_cls0 htc k)), fun k q hq => Classical.choose_spec (Classical.choose_spec (l_cls0 htc k)) q hq⟩
theorem l_arr {l : Launch} {D : va_G} {s : State} {b : Nat} (hts : ∀ w ∈ lw_tbl, w.before #[Value.ref b] s = true) (hKc : ∀ (k : Nat) (q : vw_C), vwCl[k]? = some q → u_Kn s q.1 q.2.1 q.2.2 (D.1 k) (D.2 k)) : ∃ ar : Nat → ClassId, ∀ ad : Nat → Nat, kW (l, D, ad, ar) s := by
  have htc : ∀ w ∈ dh_cw, w.before #[Value.ref b] s = true := fun w hw => hts w (List.mem_filter.mp hw).1
  have hO : (Cond.arrayOver (.object "DummyHunt$Image")).before #[Value.ref b] s = true := hts _ (List.mem_append_right _ (List.mem_of_getElem? (i := 264) (by decide +kernel)))
  have hR : (Cond.arrayOver (.array .int)).before #[Value.ref b] s = true := hts _ (List.mem_append_right _ (List.mem_of_getElem? (i := 179) (by decide +kernel)))
  obtain ⟨cI, kI, pI, i1, i2, i3⟩ := Cond.arrayClass_spec (htc _ kw_aI)
  obtain ⟨cB, kB, pB, b1, b2, b3⟩ := Cond.arrayClass_spec (htc _ kw_aB)
  obtain ⟨pO, cO, kO, o1, -, o2, o3, o4⟩ := Cond.arrayOver_spec hO
  obtain ⟨pR, cR, kR, r1, -, r2, r3, r4⟩ := arrayOverA_spec hR
  have ep : pR = cI := Option.some.inj (r1.symm.trans i1)
  subst ep
  refine ⟨fun k => if k = 0 then pR else if k = 1 then cB else if k = 2 then cO else cR, fun ad => ⟨⟨hKc, fun k q hq => ?_⟩, fun w hw => va_Nw.of (dh_NW_on hw) (hts w (List.mem_append_right _ (List.mem_filter.mp hw).1)), ⟨kR, kI, pI, r2, r3, i2, i3⟩, va_AO.of hO⟩⟩
  match k, hq with
  | 0, hq => cases hq; exact ⟨fun N z => ⟨(fun k h => by cases h), kI, i2, pI, i3⟩, i1⟩
  | 1, hq => cases hq; exact ⟨fun N z => ⟨(fun k h => by cases h), kB, b2, pB, b3⟩, b1⟩
  | 2, hq => cases hq; exact ⟨fun N z => ⟨(fun k h => by cases h), kO, o2, pO, o3⟩, kO, pO, o2, o3, o1, o4⟩
  | 3, hq => cases hq; exact ⟨fun N z => ⟨(fun k h => by cases h), kR, r2, pR, r3⟩, r4⟩
  | k + 4, hq => simp [dh_tys] at hq
def l_mI {α β : Type} (f : Nat → α → β) : Nat → List α → List β
  | _, [] => []
  | i, a :: r => f i a :: l_mI f (i + 1) r
theorem l_mI_eq {α β : Type} (f : Nat → α → β) (i : Nat) (r : List α) : r.mapIdx (fun k => f (i + k)) = l_mI f i r := by
  induction r generalizing i with
  | nil => rfl
  | cons a r ih =>
    rw [List.mapIdx_cons]
    show f (i + 0) a :: _ = f i a :: l_mI f (i + 1) r
    rw [← ih (i + 1)]
    congr 2
    funext k
    rw [show i + 1 + k = i + (k + 1) by omega]
theorem l_E {G : dh_G} {h : dh_H} {i ci : Nat} {fl : List (Option Nat)} : dh_E G h i (.inl (ci, fl)) = .inr (ci, l_mI (fun k o => dh_fld G.2.2.1 h i k o) 0 fl) := by
  show (.inr (ci, fl.mapIdx (fun k o => dh_fld G.2.2.1 h i k o)) : va_E) = _
  rw [← l_mI_eq]
  simp only [Nat.zero_add]
theorem l_w0 (l : Launch) (D : va_G) (ad : Nat → Nat) (ar : Nat → ClassId) : (dh_W (l, D, ad, ar) l_h0)[0]? = some ((ad 0), .inr (9, [.ref (ad 1), .ref (ad 3), .ref (ad 11), .ref (ad 19), .ref (ad 25), .ref (ad 27), .ref (ad 37), .ref (ad 51), .ref (ad 54), .ref (ad 55), .ref (ad 60)])) := (dh_W_at rfl).trans (congrArg (fun z => some ((ad 0), z)) (by rw [l_E]; rfl))
theorem l_w1 (l : Launch) (D : va_G) (ad : Nat → Nat) (ar : Nat → ClassId) : (dh_W (l, D, ad, ar) l_h0)[1]? = some ((ad 1), .inr (6, [.ref (ad 2), .int 0, .int 0, .int 0, .int 0, .int (-1)])) := (dh_W_at rfl).trans (congrArg (fun z => some ((ad 1), z)) (by rw [l_E]; rfl))
theorem l_w2 (l : Launch) (D : va_G) (ad : Nat → Nat) (ar : Nat → ClassId) : (dh_W (l, D, ad, ar) l_h0)[2]? = some ((ad 2), .inl (ar 0, 240, .inl (fun _ => 0))) := (dh_W_at rfl).trans (congrArg (fun z => some ((ad 2), z)) (rfl))
theorem l_w3 (l : Launch) (D : va_G) (ad : Nat → Nat) (ar : Nat → ClassId) : (dh_W (l, D, ad, ar) l_h0)[3]? = some ((ad 3), .inr (5, [.int 0, .int 0, .int 0, .int 0, .int 0, .ref (ad 4), .ref (ad 5), .ref (ad 6), .ref (ad 7), .ref (ad 8), .ref (ad 9), .ref (ad 10)])) := (dh_W_at rfl).trans (congrArg (fun z => some ((ad 3), z)) (by rw [l_E]; rfl))
theorem l_w4 (l : Launch) (D : va_G) (ad : Nat → Nat) (ar : Nat → ClassId) : (dh_W (l, D, ad, ar) l_h0)[4]? = some ((ad 4), .inl (ar 0, 6, .inl (fun _ => 0))) := (dh_W_at rfl).trans (congrArg (fun z => some ((ad 4), z)) (rfl))
theorem l_w5 (l : Launch) (D : va_G) (ad : Nat → Nat) (ar : Nat → ClassId) : (dh_W (l, D, ad, ar) l_h0)[5]? = some ((ad 5), .inl (ar 0, 6, .inl (fun _ => 0))) := (dh_W_at rfl).trans (congrArg (fun z => some ((ad 5), z)) (rfl))
theorem l_w6 (l : Launch) (D : va_G) (ad : Nat → Nat) (ar : Nat → ClassId) : (dh_W (l, D, ad, ar) l_h0)[6]? = some ((ad 6), .inl (ar 0, 6, .inl (fun _ => 0))) := (dh_W_at rfl).trans (congrArg (fun z => some ((ad 6), z)) (rfl))
theorem l_w7 (l : Launch) (D : va_G) (ad : Nat → Nat) (ar : Nat → ClassId) : (dh_W (l, D, ad, ar) l_h0)[7]? = some ((ad 7), .inl (ar 0, 6, .inl (fun _ => 0))) := (dh_W_at rfl).trans (congrArg (fun z => some ((ad 7), z)) (rfl))
theorem l_w8 (l : Launch) (D : va_G) (ad : Nat → Nat) (ar : Nat → ClassId) : (dh_W (l, D, ad, ar) l_h0)[8]? = some ((ad 8), .inl (ar 0, 6, .inl (fun _ => 0))) := (dh_W_at rfl).trans (congrArg (fun z => some ((ad 8), z)) (rfl))
theorem l_w9 (l : Launch) (D : va_G) (ad : Nat → Nat) (ar : Nat → ClassId) : (dh_W (l, D, ad, ar) l_h0)[9]? = some ((ad 9), .inl (ar 0, 6, .inl (fun _ => 0))) := (dh_W_at rfl).trans (congrArg (fun z => some ((ad 9), z)) (rfl))
theorem l_w10 (l : Launch) (D : va_G) (ad : Nat → Nat) (ar : Nat → ClassId) : (dh_W (l, D, ad, ar) l_h0)[10]? = some ((ad 10), .inl (ar 0, 6, .inl (fun _ => 0))) := (dh_W_at rfl).trans (congrArg (fun z => some ((ad 10), z)) (rfl))
theorem l_w11 (l : Launch) (D : va_G) (ad : Nat → Nat) (ar : Nat → ClassId) : (dh_W (l, D, ad, ar) l_h0)[11]? = some ((ad 11), .inr (5, [.int 0, .int 0, .int 0, .int 0, .int 0, .ref (ad 12), .ref (ad 13), .ref (ad 14), .ref (ad 15), .ref (ad 16), .ref (ad 17), .ref (ad 18)])) := (dh_W_at rfl).trans (congrArg (fun z => some ((ad 11), z)) (by rw [l_E]; rfl))
theorem l_w12 (l : Launch) (D : va_G) (ad : Nat → Nat) (ar : Nat → ClassId) : (dh_W (l, D, ad, ar) l_h0)[12]? = some ((ad 12), .inl (ar 0, 6, .inl (fun _ => 0))) := (dh_W_at rfl).trans (congrArg (fun z => some ((ad 12), z)) (rfl))
theorem l_w13 (l : Launch) (D : va_G) (ad : Nat → Nat) (ar : Nat → ClassId) : (dh_W (l, D, ad, ar) l_h0)[13]? = some ((ad 13), .inl (ar 0, 6, .inl (fun _ => 0))) := (dh_W_at rfl).trans (congrArg (fun z => some ((ad 13), z)) (rfl))
theorem l_w14 (l : Launch) (D : va_G) (ad : Nat → Nat) (ar : Nat → ClassId) : (dh_W (l, D, ad, ar) l_h0)[14]? = some ((ad 14), .inl (ar 0, 6, .inl (fun _ => 0))) := (dh_W_at rfl).trans (congrArg (fun z => some ((ad 14), z)) (rfl))
theorem l_w15 (l : Launch) (D : va_G) (ad : Nat → Nat) (ar : Nat → ClassId) : (dh_W (l, D, ad, ar) l_h0)[15]? = some ((ad 15), .inl (ar 0, 6, .inl (fun _ => 0))) := (dh_W_at rfl).trans (congrArg (fun z => some ((ad 15), z)) (rfl))
theorem l_w16 (l : Launch) (D : va_G) (ad : Nat → Nat) (ar : Nat → ClassId) : (dh_W (l, D, ad, ar) l_h0)[16]? = some ((ad 16), .inl (ar 0, 6, .inl (fun _ => 0))) := (dh_W_at rfl).trans (congrArg (fun z => some ((ad 16), z)) (rfl))
theorem l_w17 (l : Launch) (D : va_G) (ad : Nat → Nat) (ar : Nat → ClassId) : (dh_W (l, D, ad, ar) l_h0)[17]? = some ((ad 17), .inl (ar 0, 6, .inl (fun _ => 0))) := (dh_W_at rfl).trans (congrArg (fun z => some ((ad 17), z)) (rfl))
theorem l_w18 (l : Launch) (D : va_G) (ad : Nat → Nat) (ar : Nat → ClassId) : (dh_W (l, D, ad, ar) l_h0)[18]? = some ((ad 18), .inl (ar 0, 6, .inl (fun _ => 0))) := (dh_W_at rfl).trans (congrArg (fun z => some ((ad 18), z)) (rfl))
theorem l_w19 (l : Launch) (D : va_G) (ad : Nat → Nat) (ar : Nat → ClassId) : (dh_W (l, D, ad, ar) l_h0)[19]? = some ((ad 19), .inr (8, [.ref (ad 3), .int 0, .ref (ad 20), .ref (ad 21), .ref (ad 22), .ref (ad 23), .ref (ad 24)])) := (dh_W_at rfl).trans (congrArg (fun z => some ((ad 19), z)) (by rw [l_E]; rfl))
theorem l_w20 (l : Launch) (D : va_G) (ad : Nat → Nat) (ar : Nat → ClassId) : (dh_W (l, D, ad, ar) l_h0)[20]? = some ((ad 20), .inl (ar 0, 6, .inl (fun _ => 0))) := (dh_W_at rfl).trans (congrArg (fun z => some ((ad 20), z)) (rfl))
theorem l_w21 (l : Launch) (D : va_G) (ad : Nat → Nat) (ar : Nat → ClassId) : (dh_W (l, D, ad, ar) l_h0)[21]? = some ((ad 21), .inl (ar 0, 6, .inl (fun _ => 0))) := (dh_W_at rfl).trans (congrArg (fun z => some ((ad 21), z)) (rfl))
theorem l_w22 (l : Launch) (D : va_G) (ad : Nat → Nat) (ar : Nat → ClassId) : (dh_W (l, D, ad, ar) l_h0)[22]? = some ((ad 22), .inl (ar 0, 6, .inl (fun _ => 0))) := (dh_W_at rfl).trans (congrArg (fun z => some ((ad 22), z)) (rfl))
theorem l_w23 (l : Launch) (D : va_G) (ad : Nat → Nat) (ar : Nat → ClassId) : (dh_W (l, D, ad, ar) l_h0)[23]? = some ((ad 23), .inl (ar 0, 6, .inl (fun _ => 0))) := (dh_W_at rfl).trans (congrArg (fun z => some ((ad 23), z)) (rfl))
theorem l_w24 (l : Launch) (D : va_G) (ad : Nat → Nat) (ar : Nat → ClassId) : (dh_W (l, D, ad, ar) l_h0)[24]? = some ((ad 24), .inl (ar 0, 6, .inl (fun _ => 0))) := (dh_W_at rfl).trans (congrArg (fun z => some ((ad 24), z)) (rfl))
theorem l_w25 (l : Launch) (D : va_G) (ad : Nat → Nat) (ar : Nat → ClassId) : (dh_W (l, D, ad, ar) l_h0)[25]? = some ((ad 25), .inr (4, [.ref (ad 26), .int 0, .int 0])) := (dh_W_at rfl).trans (congrArg (fun z => some ((ad 25), z)) (by rw [l_E]; rfl))
theorem l_w26 (l : Launch) (D : va_G) (ad : Nat → Nat) (ar : Nat → ClassId) : (dh_W (l, D, ad, ar) l_h0)[26]? = some ((ad 26), .inl (ar 0, 620, .inl (fun _ => 0))) := (dh_W_at rfl).trans (congrArg (fun z => some ((ad 26), z)) (rfl))
theorem l_w27 (l : Launch) (D : va_G) (ad : Nat → Nat) (ar : Nat → ClassId) : (dh_W (l, D, ad, ar) l_h0)[27]? = some ((ad 27), .inr (3, [.int 0, .int 0, .ref (ad 28), .ref (ad 29)])) := (dh_W_at rfl).trans (congrArg (fun z => some ((ad 27), z)) (by rw [l_E]; rfl))
theorem l_w28 (l : Launch) (D : va_G) (ad : Nat → Nat) (ar : Nat → ClassId) : (dh_W (l, D, ad, ar) l_h0)[28]? = some ((ad 28), .inl (ar 0, 6, .inl (fun _ => 0))) := (dh_W_at rfl).trans (congrArg (fun z => some ((ad 28), z)) (rfl))
theorem l_w29 (l : Launch) (D : va_G) (ad : Nat → Nat) (ar : Nat → ClassId) : (dh_W (l, D, ad, ar) l_h0)[29]? = some ((ad 29), .inl (ar 3, 7, .inr (.inr (.inr (.inr (fun j => ([(ad 30), (ad 31), (ad 32), (ad 33), (ad 34), (ad 35), (ad 36)] : List Nat)[j]?)))))) := by
  have h1 : (fun j : Nat => (([30, 31, 32, 33, 34, 35, 36] : List Nat)[j]?).map ad) = (fun j => ([ad 30, ad 31, ad 32, ad 33, ad 34, ad 35, ad 36] : List Nat)[j]?) := by
    funext j
    rw [← List.getElem?_map]
    rfl
  rw [← h1]
  exact dh_W_at (G := (l, D, ad, ar)) (h := l_h0) (i := 29) rfl
theorem l_w30 (l : Launch) (D : va_G) (ad : Nat → Nat) (ar : Nat → ClassId) : (dh_W (l, D, ad, ar) l_h0)[30]? = some ((ad 30), .inl (ar 0, 64, .inl (fun _ => 0))) := (dh_W_at rfl).trans (congrArg (fun z => some ((ad 30), z)) (rfl))
theorem l_w31 (l : Launch) (D : va_G) (ad : Nat → Nat) (ar : Nat → ClassId) : (dh_W (l, D, ad, ar) l_h0)[31]? = some ((ad 31), .inl (ar 0, 64, .inl (fun _ => 0))) := (dh_W_at rfl).trans (congrArg (fun z => some ((ad 31), z)) (rfl))
theorem l_w32 (l : Launch) (D : va_G) (ad : Nat → Nat) (ar : Nat → ClassId) : (dh_W (l, D, ad, ar) l_h0)[32]? = some ((ad 32), .inl (ar 0, 64, .inl (fun _ => 0))) := (dh_W_at rfl).trans (congrArg (fun z => some ((ad 32), z)) (rfl))
theorem l_w33 (l : Launch) (D : va_G) (ad : Nat → Nat) (ar : Nat → ClassId) : (dh_W (l, D, ad, ar) l_h0)[33]? = some ((ad 33), .inl (ar 0, 64, .inl (fun _ => 0))) := (dh_W_at rfl).trans (congrArg (fun z => some ((ad 33), z)) (rfl))
theorem l_w34 (l : Launch) (D : va_G) (ad : Nat → Nat) (ar : Nat → ClassId) : (dh_W (l, D, ad, ar) l_h0)[34]? = some ((ad 34), .inl (ar 0, 64, .inl (fun _ => 0))) := (dh_W_at rfl).trans (congrArg (fun z => some ((ad 34), z)) (rfl))
theorem l_w35 (l : Launch) (D : va_G) (ad : Nat → Nat) (ar : Nat → ClassId) : (dh_W (l, D, ad, ar) l_h0)[35]? = some ((ad 35), .inl (ar 0, 64, .inl (fun _ => 0))) := (dh_W_at rfl).trans (congrArg (fun z => some ((ad 35), z)) (rfl))
theorem l_w36 (l : Launch) (D : va_G) (ad : Nat → Nat) (ar : Nat → ClassId) : (dh_W (l, D, ad, ar) l_h0)[36]? = some ((ad 36), .inl (ar 0, 64, .inl (fun _ => 0))) := (dh_W_at rfl).trans (congrArg (fun z => some ((ad 36), z)) (rfl))
theorem l_w37 (l : Launch) (D : va_G) (ad : Nat → Nat) (ar : Nat → ClassId) : (dh_W (l, D, ad, ar) l_h0)[37]? = some ((ad 37), .inr (7, [.ref (ad 3), .int 0, .ref (ad 38), .ref (ad 39), .ref (ad 40), .ref (ad 41), .int 0, .ref (ad 42), .ref (ad 43), .ref (ad 44)])) := (dh_W_at rfl).trans (congrArg (fun z => some ((ad 37), z)) (by rw [l_E]; rfl))
theorem l_w38 (l : Launch) (D : va_G) (ad : Nat → Nat) (ar : Nat → ClassId) : (dh_W (l, D, ad, ar) l_h0)[38]? = some ((ad 38), .inl (ar 0, 8, .inl (fun _ => 0))) := (dh_W_at rfl).trans (congrArg (fun z => some ((ad 38), z)) (rfl))
theorem l_w39 (l : Launch) (D : va_G) (ad : Nat → Nat) (ar : Nat → ClassId) : (dh_W (l, D, ad, ar) l_h0)[39]? = some ((ad 39), .inl (ar 0, 8, .inl (fun _ => 0))) := (dh_W_at rfl).trans (congrArg (fun z => some ((ad 39), z)) (rfl))
theorem l_w40 (l : Launch) (D : va_G) (ad : Nat → Nat) (ar : Nat → ClassId) : (dh_W (l, D, ad, ar) l_h0)[40]? = some ((ad 40), .inl (ar 1, 8, .inl (fun _ => 0))) := (dh_W_at rfl).trans (congrArg (fun z => some ((ad 40), z)) (rfl))
theorem l_w41 (l : Launch) (D : va_G) (ad : Nat → Nat) (ar : Nat → ClassId) : (dh_W (l, D, ad, ar) l_h0)[41]? = some ((ad 41), .inl (ar 0, 6, .inl (fun _ => 0))) := (dh_W_at rfl).trans (congrArg (fun z => some ((ad 41), z)) (rfl))
theorem l_w42 (l : Launch) (D : va_G) (ad : Nat → Nat) (ar : Nat → ClassId) : (dh_W (l, D, ad, ar) l_h0)[42]? = some ((ad 42), .inl (ar 0, 64, .inl (fun _ => 0))) := (dh_W_at rfl).trans (congrArg (fun z => some ((ad 42), z)) (rfl))
theorem l_w43 (l : Launch) (D : va_G) (ad : Nat → Nat) (ar : Nat → ClassId) : (dh_W (l, D, ad, ar) l_h0)[43]? = some ((ad 43), .inl (ar 0, 64, .inl (fun _ => 0))) := (dh_W_at rfl).trans (congrArg (fun z => some ((ad 43), z)) (rfl))
theorem l_w44 (l : Launch) (D : va_G) (ad : Nat → Nat) (ar : Nat → ClassId) : (dh_W (l, D, ad, ar) l_h0)[44]? = some ((ad 44), .inl (ar 3, 6, .inr (.inr (.inr (.inr (fun j => ([(ad 45), (ad 46), (ad 47), (ad 48), (ad 49), (ad 50)] : List Nat)[j]?)))))) := by
  have h1 : (fun j : Nat => (([45, 46, 47, 48, 49, 50] : List Nat)[j]?).map ad) = (fun j => ([ad 45, ad 46, ad 47, ad 48, ad 49, ad 50] : List Nat)[j]?) := by
    funext j
    rw [← List.getElem?_map]
    rfl
  rw [← h1]
  exact dh_W_at (G := (l, D, ad, ar)) (h := l_h0) (i := 44) rfl
theorem l_w45 (l : Launch) (D : va_G) (ad : Nat → Nat) (ar : Nat → ClassId) : (dh_W (l, D, ad, ar) l_h0)[45]? = some ((ad 45), .inl (ar 0, 6, .inl (fun _ => 0))) := (dh_W_at rfl).trans (congrArg (fun z => some ((ad 45), z)) (rfl))
theorem l_w46 (l : Launch) (D : va_G) (ad : Nat → Nat) (ar : Nat → ClassId) : (dh_W (l, D, ad, ar) l_h0)[46]? = some ((ad 46), .inl (ar 0, 6, .inl (fun _ => 0))) := (dh_W_at rfl).trans (congrArg (fun z => some ((ad 46), z)) (rfl))
theorem l_w47 (l : Launch) (D : va_G) (ad : Nat → Nat) (ar : Nat → ClassId) : (dh_W (l, D, ad, ar) l_h0)[47]? = some ((ad 47), .inl (ar 0, 6, .inl (fun _ => 0))) := (dh_W_at rfl).trans (congrArg (fun z => some ((ad 47), z)) (rfl))
theorem l_w48 (l : Launch) (D : va_G) (ad : Nat → Nat) (ar : Nat → ClassId) : (dh_W (l, D, ad, ar) l_h0)[48]? = some ((ad 48), .inl (ar 0, 6, .inl (fun _ => 0))) := (dh_W_at rfl).trans (congrArg (fun z => some ((ad 48), z)) (rfl))
theorem l_w49 (l : Launch) (D : va_G) (ad : Nat → Nat) (ar : Nat → ClassId) : (dh_W (l, D, ad, ar) l_h0)[49]? = some ((ad 49), .inl (ar 0, 6, .inl (fun _ => 0))) := (dh_W_at rfl).trans (congrArg (fun z => some ((ad 49), z)) (rfl))
theorem l_w50 (l : Launch) (D : va_G) (ad : Nat → Nat) (ar : Nat → ClassId) : (dh_W (l, D, ad, ar) l_h0)[50]? = some ((ad 50), .inl (ar 0, 6, .inl (fun _ => 0))) := (dh_W_at rfl).trans (congrArg (fun z => some ((ad 50), z)) (rfl))
theorem l_w51 (l : Launch) (D : va_G) (ad : Nat → Nat) (ar : Nat → ClassId) : (dh_W (l, D, ad, ar) l_h0)[51]? = some ((ad 51), .inr (0, [.int 0, .ref (ad 52), .ref (ad 53)])) := (dh_W_at rfl).trans (congrArg (fun z => some ((ad 51), z)) (by rw [l_E]; rfl))
theorem l_w52 (l : Launch) (D : va_G) (ad : Nat → Nat) (ar : Nat → ClassId) : (dh_W (l, D, ad, ar) l_h0)[52]? = some ((ad 52), .inl (ar 0, 15, .inl (fun _ => 0))) := (dh_W_at rfl).trans (congrArg (fun z => some ((ad 52), z)) (rfl))
theorem l_w53 (l : Launch) (D : va_G) (ad : Nat → Nat) (ar : Nat → ClassId) : (dh_W (l, D, ad, ar) l_h0)[53]? = some ((ad 53), .inl (ar 0, 15, .inl (fun _ => 0))) := (dh_W_at rfl).trans (congrArg (fun z => some ((ad 53), z)) (rfl))
theorem l_w54 (l : Launch) (D : va_G) (ad : Nat → Nat) (ar : Nat → ClassId) : (dh_W (l, D, ad, ar) l_h0)[54]? = some ((ad 54), .inr (1, [.int 0])) := (dh_W_at rfl).trans (congrArg (fun z => some ((ad 54), z)) (by rw [l_E]; rfl))
theorem l_w55 (l : Launch) (D : va_G) (ad : Nat → Nat) (ar : Nat → ClassId) : (dh_W (l, D, ad, ar) l_h0)[55]? = some ((ad 55), .inl (ar 2, 2, .inr (.inr (.inr (.inr (va_up (va_up (fun _ => none) (nI 0).toNatClampNeg (some (ad 56))) (nI 1).toNatClampNeg (some (ad 58)))))))) := by
  have h1 : (fun j : Nat => (([56, 58] : List Nat)[j]?).map ad) = (fun j => ([ad 56, ad 58] : List Nat)[j]?) := by
    funext j
    rw [← List.getElem?_map]
    rfl
  rw [k_len2]
  rw [← h1]
  exact dh_W_at (G := (l, D, ad, ar)) (h := l_h0) (i := 55) rfl
theorem l_w56 (l : Launch) (D : va_G) (ad : Nat → Nat) (ar : Nat → ClassId) : (dh_W (l, D, ad, ar) l_h0)[56]? = some ((ad 56), .inr (2, [.int 0, .int 0, .ref (ad 57)])) := (dh_W_at rfl).trans (congrArg (fun z => some ((ad 56), z)) (by rw [l_E]; rfl))
theorem l_w57 (l : Launch) (D : va_G) (ad : Nat → Nat) (ar : Nat → ClassId) : (dh_W (l, D, ad, ar) l_h0)[57]? = some ((ad 57), .inl (ar 0, 31, .inl (fun _ => 0))) := (dh_W_at rfl).trans (congrArg (fun z => some ((ad 57), z)) (rfl))
theorem l_w58 (l : Launch) (D : va_G) (ad : Nat → Nat) (ar : Nat → ClassId) : (dh_W (l, D, ad, ar) l_h0)[58]? = some ((ad 58), .inr (2, [.int 0, .int 0, .ref (ad 59)])) := (dh_W_at rfl).trans (congrArg (fun z => some ((ad 58), z)) (by rw [l_E]; rfl))
theorem l_w59 (l : Launch) (D : va_G) (ad : Nat → Nat) (ar : Nat → ClassId) : (dh_W (l, D, ad, ar) l_h0)[59]? = some ((ad 59), .inl (ar 0, 31, .inl (fun _ => 0))) := (dh_W_at rfl).trans (congrArg (fun z => some ((ad 59), z)) (rfl))
theorem l_w60 (l : Launch) (D : va_G) (ad : Nat → Nat) (ar : Nat → ClassId) : (dh_W (l, D, ad, ar) l_h0)[60]? = some ((ad 60), .inl (ar 0, 20, .inl (fun _ => 0))) := (dh_W_at rfl).trans (congrArg (fun z => some ((ad 60), z)) (rfl))
theorem l_w61 (l : Launch) (D : va_G) (ad : Nat → Nat) (ar : Nat → ClassId) : (dh_W (l, D, ad, ar) l_h0)[61]? = some ((ad 61), .inr (10, [.int 0, .ref (ad 62), .int 0, .int 0, .int 0, .int 0, .int 0, .int (-1), .int 0, .int 0, .int 0, .int 0, .int 0, .int 0, .ref (ad 63), .ref (ad 64), .int 0, .int 0, .int 0, .int 0, .int 0, .ref (ad 65), .ref (ad 66), .ref (ad 67), .ref (ad 68), .ref (ad 69), .int 0, .ref (ad 70), .ref (ad 71), .ref (ad 72), .int 0, .int 0, .ref (ad 73), .int 0, .ref (ad 74), .ref (ad 75), .ref (ad 76), .ref (ad 77), .ref (ad 78)])) := (dh_W_at rfl).trans (congrArg (fun z => some ((ad 61), z)) (by rw [l_E]; rfl))
theorem l_w62 (l : Launch) (D : va_G) (ad : Nat → Nat) (ar : Nat → ClassId) : (dh_W (l, D, ad, ar) l_h0)[62]? = some ((ad 62), .inl (ar 0, 240, .inl (fun _ => 0))) := (dh_W_at rfl).trans (congrArg (fun z => some ((ad 62), z)) (rfl))
theorem l_w63 (l : Launch) (D : va_G) (ad : Nat → Nat) (ar : Nat → ClassId) : (dh_W (l, D, ad, ar) l_h0)[63]? = some ((ad 63), .inl (ar 0, 12, .inl (fun _ => 0))) := (dh_W_at rfl).trans (congrArg (fun z => some ((ad 63), z)) (rfl))
theorem l_w64 (l : Launch) (D : va_G) (ad : Nat → Nat) (ar : Nat → ClassId) : (dh_W (l, D, ad, ar) l_h0)[64]? = some ((ad 64), .inl (ar 0, 24, .inl (fun _ => 0))) := (dh_W_at rfl).trans (congrArg (fun z => some ((ad 64), z)) (rfl))
theorem l_w65 (l : Launch) (D : va_G) (ad : Nat → Nat) (ar : Nat → ClassId) : (dh_W (l, D, ad, ar) l_h0)[65]? = some ((ad 65), .inl (ar 0, 12, .inl (fun _ => 0))) := (dh_W_at rfl).trans (congrArg (fun z => some ((ad 65), z)) (rfl))
theorem l_w66 (l : Launch) (D : va_G) (ad : Nat → Nat) (ar : Nat → ClassId) : (dh_W (l, D, ad, ar) l_h0)[66]? = some ((ad 66), .inl (ar 0, 24, .inl (fun _ => 0))) := (dh_W_at rfl).trans (congrArg (fun z => some ((ad 66), z)) (rfl))
theorem l_w67 (l : Launch) (D : va_G) (ad : Nat → Nat) (ar : Nat → ClassId) : (dh_W (l, D, ad, ar) l_h0)[67]? = some ((ad 67), .inl (ar 0, 6, .inl (fun _ => 0))) := (dh_W_at rfl).trans (congrArg (fun z => some ((ad 67), z)) (rfl))
theorem l_w68 (l : Launch) (D : va_G) (ad : Nat → Nat) (ar : Nat → ClassId) : (dh_W (l, D, ad, ar) l_h0)[68]? = some ((ad 68), .inl (ar 0, 32, .inl (fun _ => 0))) := (dh_W_at rfl).trans (congrArg (fun z => some ((ad 68), z)) (rfl))
theorem l_w69 (l : Launch) (D : va_G) (ad : Nat → Nat) (ar : Nat → ClassId) : (dh_W (l, D, ad, ar) l_h0)[69]? = some ((ad 69), .inl (ar 0, 640, .inl (fun _ => 0))) := (dh_W_at rfl).trans (congrArg (fun z => some ((ad 69), z)) (rfl))
theorem l_w70 (l : Launch) (D : va_G) (ad : Nat → Nat) (ar : Nat → ClassId) : (dh_W (l, D, ad, ar) l_h0)[70]? = some ((ad 70), .inl (ar 0, 64, .inl (fun _ => 0))) := (dh_W_at rfl).trans (congrArg (fun z => some ((ad 70), z)) (rfl))
theorem l_w71 (l : Launch) (D : va_G) (ad : Nat → Nat) (ar : Nat → ClassId) : (dh_W (l, D, ad, ar) l_h0)[71]? = some ((ad 71), .inl (ar 0, 2, .inl (fun _ => 0))) := (dh_W_at rfl).trans (congrArg (fun z => some ((ad 71), z)) (rfl))
theorem l_w72 (l : Launch) (D : va_G) (ad : Nat → Nat) (ar : Nat → ClassId) : (dh_W (l, D, ad, ar) l_h0)[72]? = some ((ad 72), .inl (ar 1, 2, .inl (fun _ => 0))) := (dh_W_at rfl).trans (congrArg (fun z => some ((ad 72), z)) (rfl))
theorem l_w73 (l : Launch) (D : va_G) (ad : Nat → Nat) (ar : Nat → ClassId) : (dh_W (l, D, ad, ar) l_h0)[73]? = some ((ad 73), .inl (ar 0, 24, .inl (fun _ => 0))) := (dh_W_at rfl).trans (congrArg (fun z => some ((ad 73), z)) (rfl))
theorem l_w74 (l : Launch) (D : va_G) (ad : Nat → Nat) (ar : Nat → ClassId) : (dh_W (l, D, ad, ar) l_h0)[74]? = some ((ad 74), .inl (ar 0, 30, .inl (fun _ => 0))) := (dh_W_at rfl).trans (congrArg (fun z => some ((ad 74), z)) (rfl))
theorem l_w75 (l : Launch) (D : va_G) (ad : Nat → Nat) (ar : Nat → ClassId) : (dh_W (l, D, ad, ar) l_h0)[75]? = some ((ad 75), .inl (ar 0, 6, .inl (fun _ => 0))) := (dh_W_at rfl).trans (congrArg (fun z => some ((ad 75), z)) (rfl))
theorem l_w76 (l : Launch) (D : va_G) (ad : Nat → Nat) (ar : Nat → ClassId) : (dh_W (l, D, ad, ar) l_h0)[76]? = some ((ad 76), .inl (ar 0, 6, .inl (fun _ => 0))) := (dh_W_at rfl).trans (congrArg (fun z => some ((ad 76), z)) (rfl))
theorem l_w77 (l : Launch) (D : va_G) (ad : Nat → Nat) (ar : Nat → ClassId) : (dh_W (l, D, ad, ar) l_h0)[77]? = some ((ad 77), .inl (ar 0, 20, .inl (fun _ => 0))) := (dh_W_at rfl).trans (congrArg (fun z => some ((ad 77), z)) (rfl))
theorem l_w78 (l : Launch) (D : va_G) (ad : Nat → Nat) (ar : Nat → ClassId) : (dh_W (l, D, ad, ar) l_h0)[78]? = some ((ad 78), .inl (ar 0, 36, .inl (fun _ => 0))) := (dh_W_at rfl).trans (congrArg (fun z => some ((ad 78), z)) (rfl))
set_option maxRecDepth 20000 in
theorem l_wld (l : Launch) (D : va_G) (ad : Nat → Nat) (ar : Nat → ClassId) : dh_W (l, D, ad, ar) l_h0 = ([((ad 0), .inr (9, [.ref (ad 1), .ref (ad 3), .ref (ad 11), .ref (ad 19), .ref (ad 25), .ref (ad 27), .ref (ad 37), .ref (ad 51), .ref (ad 54), .ref (ad 55), .ref (ad 60)])), ((ad 1), .inr (6, [.ref (ad 2), .int 0, .int 0, .int 0, .int 0, .int (-1)])), ((ad 2), .inl (ar 0, 240, .inl (fun _ => 0))), ((ad 3), .inr (5, [.int 0, .int 0, .int 0, .int 0, .int 0, .ref (ad 4), .ref (ad 5), .ref (ad 6), .ref (ad 7), .ref (ad 8), .ref (ad 9), .ref (ad 10)])), ((ad 4), .inl (ar 0, 6, .inl (fun _ => 0))), ((ad 5), .inl (ar 0, 6, .inl (fun _ => 0))), ((ad 6), .inl (ar 0, 6, .inl (fun _ => 0))), ((ad 7), .inl (ar 0, 6, .inl (fun _ => 0))), ((ad 8), .inl (ar 0, 6, .inl (fun _ => 0))), ((ad 9), .inl (ar 0, 6, .inl (fun _ => 0))), ((ad 10), .inl (ar 0, 6, .inl (fun _ => 0))), ((ad 11), .inr (5, [.int 0, .int 0, .int 0, .int 0, .int 0, .ref (ad 12), .ref (ad 13), .ref (ad 14), .ref (ad 15), .ref (ad 16), .ref (ad 17), .ref (ad 18)])), ((ad 12), .inl (ar 0, 6, .inl (fun _ => 0))), ((ad 13), .inl (ar 0, 6, .inl (fun _ => 0))), ((ad 14), .inl (ar 0, 6, .inl (fun _ => 0))), ((ad 15), .inl (ar 0, 6, .inl (fun _ => 0))), ((ad 16), .inl (ar 0, 6, .inl (fun _ => 0))), ((ad 17), .inl (ar 0, 6, .inl (fun _ => 0))), ((ad 18), .inl (ar 0, 6, .inl (fun _ => 0))), ((ad 19), .inr (8, [.ref (ad 3), .int 0, .ref (ad 20), .ref (ad 21), .ref (ad 22), .ref (ad 23), .ref (ad 24)])), ((ad 20), .inl (ar 0, 6, .inl (fun _ => 0))), ((ad 21), .inl (ar 0, 6, .inl (fun _ => 0))), ((ad 22), .inl (ar 0, 6, .inl (fun _ => 0))), ((ad 23), .inl (ar 0, 6, .inl (fun _ => 0))), ((ad 24), .inl (ar 0, 6, .inl (fun _ => 0))), ((ad 25), .inr (4, [.ref (ad 26), .int 0, .int 0])), ((ad 26), .inl (ar 0, 620, .inl (fun _ => 0))), ((ad 27), .inr (3, [.int 0, .int 0, .ref (ad 28), .ref (ad 29)])), ((ad 28), .inl (ar 0, 6, .inl (fun _ => 0))), ((ad 29), .inl (ar 3, 7, .inr (.inr (.inr (.inr (fun j => ([(ad 30), (ad 31), (ad 32), (ad 33), (ad 34), (ad 35), (ad 36)] : List Nat)[j]?)))))), ((ad 30), .inl (ar 0, 64, .inl (fun _ => 0))), ((ad 31), .inl (ar 0, 64, .inl (fun _ => 0))), ((ad 32), .inl (ar 0, 64, .inl (fun _ => 0))), ((ad 33), .inl (ar 0, 64, .inl (fun _ => 0))), ((ad 34), .inl (ar 0, 64, .inl (fun _ => 0))), ((ad 35), .inl (ar 0, 64, .inl (fun _ => 0))), ((ad 36), .inl (ar 0, 64, .inl (fun _ => 0))), ((ad 37), .inr (7, [.ref (ad 3), .int 0, .ref (ad 38), .ref (ad 39), .ref (ad 40), .ref (ad 41), .int 0, .ref (ad 42), .ref (ad 43), .ref (ad 44)])), ((ad 38), .inl (ar 0, 8, .inl (fun _ => 0))), ((ad 39), .inl (ar 0, 8, .inl (fun _ => 0))), ((ad 40), .inl (ar 1, 8, .inl (fun _ => 0))), ((ad 41), .inl (ar 0, 6, .inl (fun _ => 0))), ((ad 42), .inl (ar 0, 64, .inl (fun _ => 0))), ((ad 43), .inl (ar 0, 64, .inl (fun _ => 0))), ((ad 44), .inl (ar 3, 6, .inr (.inr (.inr (.inr (fun j => ([(ad 45), (ad 46), (ad 47), (ad 48), (ad 49), (ad 50)] : List Nat)[j]?)))))), ((ad 45), .inl (ar 0, 6, .inl (fun _ => 0))), ((ad 46), .inl (ar 0, 6, .inl (fun _ => 0))), ((ad 47), .inl (ar 0, 6, .inl (fun _ => 0))), ((ad 48), .inl (ar 0, 6, .inl (fun _ => 0))), ((ad 49), .inl (ar 0, 6, .inl (fun _ => 0))), ((ad 50), .inl (ar 0, 6, .inl (fun _ => 0))), ((ad 51), .inr (0, [.int 0, .ref (ad 52), .ref (ad 53)])), ((ad 52), .inl (ar 0, 15, .inl (fun _ => 0))), ((ad 53), .inl (ar 0, 15, .inl (fun _ => 0))), ((ad 54), .inr (1, [.int 0])), ((ad 55), .inl (ar 2, 2, .inr (.inr (.inr (.inr (va_up (va_up (fun _ => none) (nI 0).toNatClampNeg (some (ad 56))) (nI 1).toNatClampNeg (some (ad 58)))))))), ((ad 56), .inr (2, [.int 0, .int 0, .ref (ad 57)])), ((ad 57), .inl (ar 0, 31, .inl (fun _ => 0))), ((ad 58), .inr (2, [.int 0, .int 0, .ref (ad 59)])), ((ad 59), .inl (ar 0, 31, .inl (fun _ => 0))), ((ad 60), .inl (ar 0, 20, .inl (fun _ => 0))), ((ad 61), .inr (10, [.int 0, .ref (ad 62), .int 0, .int 0, .int 0, .int 0, .int 0, .int (-1), .int 0, .int 0, .int 0, .int 0, .int 0, .int 0, .ref (ad 63), .ref (ad 64), .int 0, .int 0, .int 0, .int 0, .int 0, .ref (ad 65), .ref (ad 66), .ref (ad 67), .ref (ad 68), .ref (ad 69), .int 0, .ref (ad 70), .ref (ad 71), .ref (ad 72), .int 0, .int 0, .ref (ad 73), .int 0, .ref (ad 74), .ref (ad 75), .ref (ad 76), .ref (ad 77), .ref (ad 78)])), ((ad 62), .inl (ar 0, 240, .inl (fun _ => 0))), ((ad 63), .inl (ar 0, 12, .inl (fun _ => 0))), ((ad 64), .inl (ar 0, 24, .inl (fun _ => 0))), ((ad 65), .inl (ar 0, 12, .inl (fun _ => 0))), ((ad 66), .inl (ar 0, 24, .inl (fun _ => 0))), ((ad 67), .inl (ar 0, 6, .inl (fun _ => 0))), ((ad 68), .inl (ar 0, 32, .inl (fun _ => 0))), ((ad 69), .inl (ar 0, 640, .inl (fun _ => 0))), ((ad 70), .inl (ar 0, 64, .inl (fun _ => 0))), ((ad 71), .inl (ar 0, 2, .inl (fun _ => 0))), ((ad 72), .inl (ar 1, 2, .inl (fun _ => 0))), ((ad 73), .inl (ar 0, 24, .inl (fun _ => 0))), ((ad 74), .inl (ar 0, 30, .inl (fun _ => 0))), ((ad 75), .inl (ar 0, 6, .inl (fun _ => 0))), ((ad 76), .inl (ar 0, 6, .inl (fun _ => 0))), ((ad 77), .inl (ar 0, 20, .inl (fun _ => 0))), ((ad 78), .inl (ar 0, 36, .inl (fun _ => 0)))] : va_W) := by
  apply List.ext_getElem?
  intro k
  match k with
  | 0 => exact l_w0 l D ad ar
  | 1 => exact l_w1 l D ad ar
  | 2 => exact l_w2 l D ad ar
  | 3 => exact l_w3 l D ad ar
  | 4 => exact l_w4 l D ad ar
  | 5 => exact l_w5 l D ad ar
  | 6 => exact l_w6 l D ad ar
  | 7 => exact l_w7 l D ad ar
  | 8 => exact l_w8 l D ad ar
  | 9 => exact l_w9 l D ad ar
  | 10 => exact l_w10 l D ad ar
  | 11 => exact l_w11 l D ad ar
  | 12 => exact l_w12 l D ad ar
  | 13 => exact l_w13 l D ad ar
  | 14 => exact l_w14 l D ad ar
  | 15 => exact l_w15 l D ad ar
  | 16 => exact l_w16 l D ad ar
  | 17 => exact l_w17 l D ad ar
  | 18 => exact l_w18 l D ad ar
  | 19 => exact l_w19 l D ad ar
  | 20 => exact l_w20 l D ad ar
  | 21 => exact l_w21 l D ad ar
  | 22 => exact l_w22 l D ad ar
  | 23 => exact l_w23 l D ad ar
  | 24 => exact l_w24 l D ad ar
  | 25 => exact l_w25 l D ad ar
  | 26 => exact l_w26 l D ad ar
  | 27 => exact l_w27 l D ad ar
  | 28 => exact l_w28 l D ad ar
  | 29 => exact l_w29 l D ad ar
  | 30 => exact l_w30 l D ad ar
  | 31 => exact l_w31 l D ad ar
  | 32 => exact l_w32 l D ad ar
  | 33 => exact l_w33 l D ad ar
  | 34 => exact l_w34 l D ad ar
  | 35 => exact l_w35 l D ad ar
  | 36 => exact l_w36 l D ad ar
  | 37 => exact l_w37 l D ad ar
  | 38 => exact l_w38 l D ad ar
  | 39 => exact l_w39 l D ad ar
  | 40 => exact l_w40 l D ad ar
  | 41 => exact l_w41 l D ad ar
  | 42 => exact l_w42 l D ad ar
  | 43 => exact l_w43 l D ad ar
  | 44 => exact l_w44 l D ad ar
  | 45 => exact l_w45 l D ad ar
  | 46 => exact l_w46 l D ad ar
  | 47 => exact l_w47 l D ad ar
  | 48 => exact l_w48 l D ad ar
  | 49 => exact l_w49 l D ad ar
  | 50 => exact l_w50 l D ad ar
  | 51 => exact l_w51 l D ad ar
  | 52 => exact l_w52 l D ad ar
  | 53 => exact l_w53 l D ad ar
  | 54 => exact l_w54 l D ad ar
  | 55 => exact l_w55 l D ad ar
  | 56 => exact l_w56 l D ad ar
  | 57 => exact l_w57 l D ad ar
  | 58 => exact l_w58 l D ad ar
  | 59 => exact l_w59 l D ad ar
  | 60 => exact l_w60 l D ad ar
  | 61 => exact l_w61 l D ad ar
  | 62 => exact l_w62 l D ad ar
  | 63 => exact l_w63 l D ad ar
  | 64 => exact l_w64 l D ad ar
  | 65 => exact l_w65 l D ad ar
  | 66 => exact l_w66 l D ad ar
  | 67 => exact l_w67 l D ad ar
  | 68 => exact l_w68 l D ad ar
  | 69 => exact l_w69 l D ad ar
  | 70 => exact l_w70 l D ad ar
  | 71 => exact l_w71 l D ad ar
  | 72 => exact l_w72 l D ad ar
  | 73 => exact l_w73 l D ad ar
  | 74 => exact l_w74 l D ad ar
  | 75 => exact l_w75 l D ad ar
  | 76 => exact l_w76 l D ad ar
  | 77 => exact l_w77 l D ad ar
  | 78 => exact l_w78 l D ad ar
  | k + 79 =>
    rw [List.getElem?_eq_none (by unfold dh_W; rw [List.length_mapIdx]; show 79 ≤ k + 79; omega)]
    rfl
