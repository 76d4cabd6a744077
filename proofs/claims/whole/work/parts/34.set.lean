/-! writing; what a part rests on; places -/
theorem uI_ne {h : av_H} {a b k : Nat} {v : Int32} (hb : b ≠ a) : (av_uI h a k v).2.1 b = h.2.1 b := va_up_ne _ _ hb
theorem uI_eq {h : av_H} {a k : Nat} {v : Int32} : (av_uI h a k v).2.1 a k = v := by simp [av_uI, va_up, upd]
theorem uI_nk {h : av_H} {a j k : Nat} {v : Int32} (hj : j ≠ k) : (av_uI h a k v).2.1 a j = h.2.1 a j := by simp [av_uI, va_up, upd, hj]
theorem uL_ne {h : av_H} {a b k : Nat} {v : Int64} (hb : b ≠ a) : (av_uL h a k v).2.2.1 b = h.2.2.1 b := va_up_ne _ _ hb
theorem uL_eq {h : av_H} {a k : Nat} {v : Int64} : (av_uL h a k v).2.2.1 a k = v := by simp [av_uL, va_up, vp_updL, upd]
theorem uL_nk {h : av_H} {a j k : Nat} {v : Int64} (hj : j ≠ k) : (av_uL h a k v).2.2.1 a j = h.2.2.1 a j := by simp [av_uL, va_up, vp_updL, upd, hj]
theorem uL_I {h : av_H} {a k : Nat} {v : Int64} : (av_uL h a k v).2.1 = h.2.1 := rfl
theorem uI_R {h : av_H} {a k : Nat} {v : Int32} : (av_uI h a k v).2.2.2 = h.2.2.2 := rfl
theorem uI_L {h : av_H} {a k : Nat} {v : Int32} : (av_uI h a k v).2.2.1 = h.2.2.1 := rfl
theorem uI_1 {h : av_H} {a k : Nat} {v : Int32} : (av_uI h a k v).1 = h.1 := rfl
theorem WF_uI {h : av_H} {a k : Nat} {v : Int32} (w : WF h) : WF (av_uI h a k v) := w
theorem WF_uL {h : av_H} {a k : Nat} {v : Int64} (w : WF h) : WF (av_uL h a k v) := w
theorem told_uI {h : av_H} {a k : Nat} {v t : Int32} (ha : a ≠ 143) : told (av_uI h a k v) t = told h t := by simp only [told, uI_ne (fun e => ha e.symm)]
theorem uI_ite {c : Prop} [Decidable c] {h g : av_H} : (if c then h else g).2.1 = if c then h.2.1 else g.2.1 := by split <;> rfl
/-- h' holds at the places of F what h holds; cells may have come -/
def agr (F : Nat → Nat → Bool) (h h' : av_H) : Prop :=
  (∃ t, h'.1 = h.1 ++ t) ∧ ∀ a k, F a k = true → h'.2.1 a k = h.2.1 a k ∧ h'.2.2.1 a k = h.2.2.1 a k ∧ h'.2.2.2 a k = h.2.2.2 a k
theorem agr.rfl {F : Nat → Nat → Bool} {h : av_H} : agr F h h := ⟨⟨[], by simp⟩, fun _ _ _ => ⟨Eq.refl _, Eq.refl _, Eq.refl _⟩⟩
theorem agr.tr {F : Nat → Nat → Bool} {h g k : av_H} (a : agr F h g) (b : agr F g k) : agr F h k := by
  obtain ⟨⟨t, ht⟩, a⟩ := a
  obtain ⟨⟨u, hu⟩, b⟩ := b
  refine ⟨⟨t ++ u, by rw [hu, ht, List.append_assoc]⟩, fun x y q => ?_⟩
  obtain ⟨a1, a2, a3⟩ := a x y q
  obtain ⟨b1, b2, b3⟩ := b x y q
  exact ⟨b1.trans a1, b2.trans a2, b3.trans a3⟩
theorem agr.uI {F : Nat → Nat → Bool} {h h' : av_H} {a k : Nat} {v : Int32} (q : F a k = false) (A : agr F h h') : agr F h (av_uI h' a k v) := by
  refine ⟨A.1, fun x y e => ⟨?_, (A.2 x y e).2⟩⟩
  rw [← (A.2 x y e).1]
  by_cases hx : x = a
  · subst hx
    exact uI_nk (fun z => by rw [z, q] at e; cases e)
  · rw [uI_ne hx]
theorem agr.uL {F : Nat → Nat → Bool} {h h' : av_H} {a k : Nat} {v : Int64} (q : F a k = false) (A : agr F h h') : agr F h (av_uL h' a k v) := by
  refine ⟨A.1, fun x y e => ⟨(A.2 x y e).1, ?_, (A.2 x y e).2.2⟩⟩
  rw [← (A.2 x y e).2.1]
  by_cases hx : x = a
  · subst hx
    exact uL_nk (fun z => by rw [z, q] at e; cases e)
  · rw [uL_ne hx]
theorem agr.ite {F : Nat → Nat → Bool} {h g k : av_H} {c : Prop} [Decidable c] (a : agr F h g) (b : agr F h k) : agr F h (if c then g else k) := by split <;> assumption
theorem agr.k {F : Nat → Nat → Bool} {h h' : av_H} (A : agr F h h') {a : Nat} {q : Nat × Nat} (e : h.1[a]? = some q) : h'.1[a]? = some q := by
  obtain ⟨⟨t, ht⟩, -⟩ := A
  rw [ht]
  exact List.getElem?_append_left (by
    rcases Nat.lt_or_ge a h.1.length with z | z
    · exact z
    · rw [List.getElem?_eq_none z] at e; cases e) ▸ e
/-- the places of a part: the towers' cells, whole cells, single fields -/
def FP (q : Bool) (cs : List Nat) (fs : List (Nat × Nat)) (a k : Nat) : Bool := (q && decide (226 ≤ a)) || cs.elem a || fs.elem (a, k)
/-- two parts share no place -/
def fpD (q : Bool) (cs : List Nat) (fs : List (Nat × Nat)) (r : Bool) (ds : List Nat) (gs : List (Nat × Nat)) : Bool :=
  !(q && r) && (!q || (ds.all (fun a => decide (a < 226)) && gs.all (fun z => decide (z.1 < 226)))) && (!r || (cs.all (fun a => decide (a < 226)) && fs.all (fun z => decide (z.1 < 226)))) &&
  cs.all (fun a => !ds.elem a && gs.all (fun z => !(z.1 == a))) && fs.all (fun z => !ds.elem z.1 && !gs.elem z)
theorem fpD_ok {q r : Bool} {cs ds : List Nat} {fs gs : List (Nat × Nat)} (D : fpD q cs fs r ds gs = true) {a k : Nat} (e : FP q cs fs a k = true) : (!FP r ds gs a k) = true := by
  simp only [fpD, FP, Bool.and_eq_true, Bool.or_eq_true, Bool.not_eq_true', Bool.and_eq_false_iff, List.all_eq_true, List.elem_eq_mem, decide_eq_true_eq, decide_eq_false_iff_not, Bool.or_eq_false_iff, beq_eq_false_iff_ne] at D e ⊢
  obtain ⟨⟨⟨⟨D1, D2⟩, D3⟩, D4⟩, D5⟩ := D
  refine ⟨⟨?_, ?_⟩, ?_⟩
  · cases r with
    | false => exact Or.inl rfl
    | true =>
      refine Or.inr ?_
      rcases e with (⟨e1, e2⟩ | e1) | e1
      · subst e1; simp at D1
      · have := (D3.resolve_left (by simp)).1 a e1; omega
      · have := (D3.resolve_left (by simp)).2 (a, k) e1; simp at this; omega
  · intro z
    rcases e with (⟨e1, e2⟩ | e1) | e1
    · subst e1
      have := (D2.resolve_left (by simp)).1 a z; omega
    · exact (D4 a e1).1 z
    · exact (D5 (a, k) e1).1 z
  · intro z
    rcases e with (⟨e1, e2⟩ | e1) | e1
    · subst e1
      have := (D2.resolve_left (by simp)).2 (a, k) z; simp at this; omega
    · exact (D4 a e1).2 (a, k) z rfl
    · exact (D5 (a, k) e1).2 z
theorem agr.mono {F G : Nat → Nat → Bool} {h h' : av_H} (A : agr G h h') (q : ∀ a k, F a k = true → G a k = true) : agr F h h' := ⟨A.1, fun a k e => A.2 a k (q a k e)⟩
/-- but for the places of W all is as it was -/
def off (r : Bool) (ds : List Nat) (gs : List (Nat × Nat)) (h h' : av_H) : Prop := agr (fun a k => !FP r ds gs a k) h h'
theorem off.fr {q r : Bool} {cs ds : List Nat} {fs gs : List (Nat × Nat)} {h h' : av_H} (A : off r ds gs h h') (D : fpD q cs fs r ds gs = true) : agr (FP q cs fs) h h' := agr.mono A (fun _ _ e => fpD_ok D e)
theorem agr.I {F : Nat → Nat → Bool} {h h' : av_H} (A : agr F h h') {a k : Nat} (e : F a k = true) : h'.2.1 a k = h.2.1 a k := (A.2 a k e).1
theorem agr.L {F : Nat → Nat → Bool} {h h' : av_H} (A : agr F h h') {a k : Nat} (e : F a k = true) : h'.2.2.1 a k = h.2.2.1 a k := (A.2 a k e).2.1
theorem agr.R {F : Nat → Nat → Bool} {h h' : av_H} (A : agr F h h') {a k : Nat} (e : F a k = true) : h'.2.2.2 a k = h.2.2.2 a k := (A.2 a k e).2.2
/-- the towers rest on these places -/
theorem J_tow.fr {h h' : av_H} (J : J_tow h) (A : agr (FP true [1, 143, 144, 145, 147, 148, 149, 150] []) h h') : J_tow h' := by
  have T : ∀ t, h'.2.2.2 1 t = h.2.2.2 1 t := fun t => A.R rfl
  have G : ∀ a k, 226 ≤ a → FP true [1, 143, 144, 145, 147, 148, 149, 150] [] a k = true := fun a k q => by simp [FP, q]
  refine ⟨fun t ht => ?_, fun t u a b => by rw [T, T]; exact J.2 t u a b⟩
  rw [T]
  rcases J.1 t ht with ⟨h1, h2⟩ | ⟨a, h1, h2⟩
  · refine Or.inl ⟨h1, ?_⟩
    obtain ⟨a1, a2, a3, a4, a5, a6⟩ := h2
    exact ⟨(A.I rfl).trans a1, (A.I rfl).trans a2, (A.I rfl).trans a3, (A.I rfl).trans a4, fun s hs c hc f hf => (A.I rfl).trans (a5 s hs c hc f hf), fun s hs x hx => (A.I rfl).trans (a6 s hs x hx)⟩
  · refine Or.inr ⟨a, h1, ?_⟩
    obtain ⟨b0, b1, b2, b3, b4, b5, ⟨F, C, W, L, V, p1, p2, p3, p4, p5, p6, p7, p8, p9, q1, q2, q3, q4, q5, q6, q7, q8, q9, q0⟩, b7, b8⟩ := h2
    refine ⟨b0, A.k b1, A.k b2, A.k b3, (A.R (G _ _ b0)).trans b4, (A.R (G _ _ b0)).trans b5, ⟨F, C, W, L, V, p1, p2, p3, p4, p5, p6, p7, p8, p9, (A.I (G _ _ b0)).trans q1, (A.I rfl).trans q2, (A.I (G _ _ b0)).trans q3, (A.I rfl).trans q4, (A.I (G _ _ b0)).trans q5, (A.I rfl).trans q6, (A.I (G _ _ b0)).trans q7, (A.I rfl).trans q8, (A.I (G _ _ b0)).trans q9, (A.I rfl).trans q0⟩, fun s hs c hc => ?_, fun s hs => ?_⟩
    · obtain ⟨b, z1, z2, z3⟩ := b7 s hs c hc
      exact ⟨b, z1, (A.I (G _ _ (by omega))).trans z2, fun f hf => (A.I rfl).trans (z3 f hf)⟩
    · obtain ⟨b, z1, z2, z3⟩ := b8 s hs
      exact ⟨b, z1, (A.I (G _ _ (by omega))).trans z2, fun x hx => (A.I rfl).trans (z3 x hx)⟩
theorem J_tv.fr {h h' : av_H} (J : J_tv h) (A : agr (FP true [1, 143, 144, 145, 147, 148, 149] []) h h') : J_tv h' := by
  have T : ∀ t, h'.2.2.2 1 t = h.2.2.2 1 t := fun t => A.R rfl
  have G : ∀ a k, 226 ≤ a → FP true [1, 143, 144, 145, 147, 148, 149] [] a k = true := fun a k q => by simp [FP, q]
  refine ⟨fun t ht => ?_, fun t u a b => by rw [T, T]; exact J.2 t u a b⟩
  rw [T]
  rcases J.1 t ht with ⟨h1, h2⟩ | ⟨a, h1, h2⟩
  · refine Or.inl ⟨h1, ?_⟩
    exact (A.I rfl).trans h2
  · refine Or.inr ⟨a, h1, ?_⟩
    obtain ⟨b0, b1, b2, b3, b4, b5, ⟨F, C, W, L, V, p1, p2, p3, p4, p5, p6, p7, p8, p9, q1, q2, q3, q4, q5, q6, q7, q8, q9⟩, b7, b8⟩ := h2
    refine ⟨b0, A.k b1, A.k b2, A.k b3, (A.R (G _ _ b0)).trans b4, (A.R (G _ _ b0)).trans b5, ⟨F, C, W, L, V, p1, p2, p3, p4, p5, p6, p7, p8, p9, (A.I (G _ _ b0)).trans q1, (A.I rfl).trans q2, (A.I (G _ _ b0)).trans q3, (A.I rfl).trans q4, (A.I (G _ _ b0)).trans q5, (A.I rfl).trans q6, (A.I (G _ _ b0)).trans q7, (A.I rfl).trans q8, (A.I (G _ _ b0)).trans q9⟩, fun s hs c hc => ?_, fun s hs => ?_⟩
    · obtain ⟨b, z1, z2, z3⟩ := b7 s hs c hc
      exact ⟨b, z1, (A.I (G _ _ (by omega))).trans z2, fun f hf => (A.I rfl).trans (z3 f hf)⟩
    · obtain ⟨b, z1, z2, z3⟩ := b8 s hs
      exact ⟨b, z1, (A.I (G _ _ (by omega))).trans z2, fun x hx => (A.I rfl).trans (z3 x hx)⟩
theorem R_tow.fr {h h' : av_H} (J : R_tow h) (A : agr (FP false [143, 144] []) h h') : R_tow h' := fun t ht => by
  rw [A.I rfl, A.I rfl]
  exact J t ht
/-- the reference's first act: nothing is thrown -/
def th (h : av_H) : av_H := av_uI h 137 0 0
theorem th_1 {h : av_H} : (th h).1 = h.1 := rfl
theorem uL_1 {h : av_H} {a k : Nat} {v : Int64} : (av_uL h a k v).1 = h.1 := rfl
theorem uL_R {h : av_H} {a k : Nat} {v : Int64} : (av_uL h a k v).2.2.2 = h.2.2.2 := rfl
theorem th_e {h : av_H} : av_uI h 137 0 0 = th h := rfl
theorem WF_th {h : av_H} (w : WF h) : WF (th h) := w
theorem th_I {h : av_H} {b : Nat} (hb : b ≠ 137) : (th h).2.1 b = h.2.1 b := uI_ne hb
theorem th_k {h : av_H} {k : Nat} (hk : k ≠ 0) : (th h).2.1 137 k = h.2.1 137 k := uI_nk hk
section
variable {X : av_X} {d : Nat} {h : av_H}
theorem c_isTold (w : WF h) (J : J_tow h) (t : Int32) : ev X (d + 2) 192 [vr (some 0), vi t] h = av_rI (bI (told h t)) h := by
  simp (disch := first | assumption | omega) only [e_192, b_192_0, ↓c_below', av_cI_r, av_cL_r, av_cV_r, Option.bind_some, ↓zb_0, ↓zb_1, ↓zb_b, bI_0, tI_6]
  by_cases hr : rg t 0 5 = true
  · obtain ⟨j, hj, rfl⟩ := rg_nI (b := 5) (by decide) hr
    have hr6 : rg (nI j) 0 ((6 : Int) - 1) = true := hr
    simp (disch := first | assumption | omega) only [hr6, ↓gR_0_0, ↓ld_1, ↓ln_1, av_cI_r, av_cL_r, av_cV_r, Option.bind_some, ↓zb_0, ↓zb_1, ↓zb_b, Bool.true_eq_false, if_false]
    cases ht : told h (nI j) with
    | false =>
      have := (told_no J hj ht).1
      simp [this, bI]
    | true =>
      obtain ⟨t', a, h6, e, h1, -⟩ := told_ex J ht
      have : t' = j := ((nI_eq (by omega) (by omega)).mp e).symm
      subst this
      simp [h1, bI]
  · have hr6 : rg t 0 ((6 : Int) - 1) = false := by simpa using hr
    have : told h t = false := by simp only [told, Bool.eq_false_iff.mpr hr, Bool.false_and]
    simp only [hr6, this, bI_f, if_true]
theorem c_isTold' (w : WF h) (J : J_tow h) (t : Int32) {β : Type} (Kc : Int32 × av_H → Option β) : (av_cI (ev X (d + 2) 192 [vr (some 0), vi t] h)).bind Kc = Kc (bI (told h t), h) := by rw [c_isTold w J t]; rfl
theorem c_isStop (w : WF h) (J : J_tow h) (t s x : Int32) : ev X (d + 3) 193 [vr (some 0), vi t, vi s, vi x] h = av_rI (bI (isStp h t s x)) h := by
  simp (disch := first | assumption | omega) only [e_193, b_193_0, ↓c_isTold', ↓c_isSide', ↓is_0, av_cI_r, av_cL_r, av_cV_r, Option.bind_some, ↓zb_0, ↓zb_1, ↓zb_b, bI_0]
  by_cases ht : told h t = true
  · obtain ⟨j, a, h6, rfl, hj, T⟩ := told_ex J ht
    obtain ⟨F, C, W, L, V, p1, p2, p3, p4, p5, p6, p7, p8, p9, q1, q2, q3, q4, -⟩ := T.2.2.2.2.2.2.1
    cases hs : rg s 0 3 with
    | false => simp [ht, hs, isStp, bI]
    | true =>
      simp (disch := first | assumption | omega) only [ht, hs, ↓gR_0_0, ↓ld_1, hj, ↓bS (k_gI T.2.1 _), ↓c_below', av_cI_r, av_cL_r, av_cV_r, Option.bind_some, ↓zb_0, ↓zb_1, ↓zb_b, q3, q4, isStp, nI_clamp, Bool.true_and, Bool.true_eq_false, if_false, toI_nI, rI_bI]
  · simp [ht, isStp, bI]
theorem c_isStop' (w : WF h) (J : J_tow h) (t s x : Int32) {β : Type} (Kc : Int32 × av_H → Option β) : (av_cI (ev X (d + 3) 193 [vr (some 0), vi t, vi s, vi x] h)).bind Kc = Kc (bI (isStp h t s x), h) := by rw [c_isStop w J t s x]; rfl
theorem c_isToldV (w : WF h) (J : J_tv h) (t : Int32) : ev X (d + 2) 192 [vr (some 0), vi t] h = av_rI (bI (told h t)) h := by
  simp (disch := first | assumption | omega) only [e_192, b_192_0, ↓c_below', av_cI_r, av_cL_r, av_cV_r, Option.bind_some, ↓zb_0, ↓zb_1, ↓zb_b, bI_0, tI_6]
  by_cases hr : rg t 0 5 = true
  · obtain ⟨j, hj, rfl⟩ := rg_nI (b := 5) (by decide) hr
    have hr6 : rg (nI j) 0 ((6 : Int) - 1) = true := hr
    simp (disch := first | assumption | omega) only [hr6, ↓gR_0_0, ↓ld_1, ↓ln_1, av_cI_r, av_cL_r, av_cV_r, Option.bind_some, ↓zb_0, ↓zb_1, ↓zb_b, Bool.true_eq_false, if_false]
    cases ht : told h (nI j) with
    | false =>
      have := told_noV J hj ht
      simp [this, bI]
    | true =>
      obtain ⟨t', a, h6, e, h1, -⟩ := told_exV J ht
      have : t' = j := ((nI_eq (by omega) (by omega)).mp e).symm
      subst this
      simp [h1, bI]
  · have hr6 : rg t 0 ((6 : Int) - 1) = false := by simpa using hr
    have : told h t = false := by simp only [told, Bool.eq_false_iff.mpr hr, Bool.false_and]
    simp only [hr6, this, bI_f, if_true]
theorem c_isToldV' (w : WF h) (J : J_tv h) (t : Int32) {β : Type} (Kc : Int32 × av_H → Option β) : (av_cI (ev X (d + 2) 192 [vr (some 0), vi t] h)).bind Kc = Kc (bI (told h t), h) := by rw [c_isToldV w J t]; rfl
theorem c_isStopV (w : WF h) (J : J_tv h) (t s x : Int32) : ev X (d + 3) 193 [vr (some 0), vi t, vi s, vi x] h = av_rI (bI (isStp h t s x)) h := by
  simp (disch := first | assumption | omega) only [e_193, b_193_0, ↓c_isToldV', ↓c_isSide', ↓is_0, av_cI_r, av_cL_r, av_cV_r, Option.bind_some, ↓zb_0, ↓zb_1, ↓zb_b, bI_0]
  by_cases ht : told h t = true
  · obtain ⟨j, a, h6, rfl, hj, T⟩ := told_exV J ht
    obtain ⟨F, C, W, L, V, p1, p2, p3, p4, p5, p6, p7, p8, p9, q1, q2, q3, q4, -⟩ := T.2.2.2.2.2.2.1
    cases hs : rg s 0 3 with
    | false => simp [ht, hs, isStp, bI]
    | true =>
      simp (disch := first | assumption | omega) only [ht, hs, ↓gR_0_0, ↓ld_1, hj, ↓bS (k_gI T.2.1 _), ↓c_below', av_cI_r, av_cL_r, av_cV_r, Option.bind_some, ↓zb_0, ↓zb_1, ↓zb_b, q3, q4, isStp, nI_clamp, Bool.true_and, Bool.true_eq_false, if_false, toI_nI, rI_bI]
  · simp [ht, isStp, bI]
theorem c_isStopV' (w : WF h) (J : J_tv h) (t s x : Int32) {β : Type} (Kc : Int32 × av_H → Option β) : (av_cI (ev X (d + 3) 193 [vr (some 0), vi t, vi s, vi x] h)).bind Kc = Kc (bI (isStp h t s x), h) := by rw [c_isStopV w J t s x]; rfl
theorem isPan_eq {t s f c : Int32} : isPan h t s f c = (isStp h t s c && rg f 0 ((h.2.1 143 t.toNatClampNeg).toInt - 1)) := by
  simp only [isPan, isStp]
  cases told h t <;> cases rg s 0 3 <;> simp [Bool.and_comm]
theorem c_isPane (w : WF h) (J : J_tow h) (t s f c : Int32) : ev X (d + 4) 194 [vr (some 0), vi t, vi s, vi f, vi c] h = av_rI (bI (isPan h t s f c)) h := by
  simp (disch := first | assumption | omega) only [e_194, b_194_0, ↓c_isStop', ↓is_0, av_cI_r, av_cL_r, av_cV_r, Option.bind_some, ↓zb_0, ↓zb_1, ↓zb_b, bI_0]
  rw [isPan_eq]
  by_cases hp : isStp h t s c = true
  · have ht : told h t = true := by simp only [isStp, Bool.and_eq_true] at hp; exact hp.1.1
    obtain ⟨j, a, h6, rfl, hj, T⟩ := told_ex J ht
    obtain ⟨F, C, W, L, V, p1, p2, p3, p4, p5, p6, p7, p8, p9, q1, q2, q3, q4, -⟩ := T.2.2.2.2.2.2.1
    simp (disch := first | assumption | omega) only [hp, ↓gR_0_0, ↓ld_1, hj, ↓bS (k_gI T.2.1 _), ↓c_below', av_cI_r, av_cL_r, av_cV_r, Option.bind_some, ↓zb_0, ↓zb_1, ↓zb_b, q1, q2, nI_clamp, Bool.true_and, Bool.true_eq_false, if_false, toI_nI, rI_bI]
  · simp [hp, bI]
theorem c_isPane' (w : WF h) (J : J_tow h) (t s f c : Int32) {β : Type} (Kc : Int32 × av_H → Option β) : (av_cI (ev X (d + 4) 194 [vr (some 0), vi t, vi s, vi f, vi c] h)).bind Kc = Kc (bI (isPan h t s f c), h) := by rw [c_isPane w J t s f c]; rfl
theorem s_isPane (w : WF h) (J : R_tow h) (t s f c : Int32) : ev X (d + 3) 259 [vr (some 137), vi t, vi s, vi f, vi c] h = av_rI (bI (isPan h t s f c)) h := by
  simp (disch := first | assumption | omega) only [e_259, b_259_0, ↓s_isTower', ↓s_isSide', ↓is_137, av_cI_r, av_cL_r, av_cV_r, Option.bind_some, ↓zb_0, ↓zb_1, ↓zb_b, bI_0]
  by_cases ht : told h t = true
  · obtain ⟨j, F, C, h6, rfl, p1, p2, p3, p4, q2, q4⟩ := J.ex ht
    cases hs : rg s 0 3 with
    | false => simp [ht, hs, isPan, bI]
    | true =>
      simp (disch := first | assumption | omega) only [ht, hs, ↓is_137, ↓gR_137_10, ↓ld_143, ↓st_143, ↓ln_143, ↓gR_137_11, ↓ld_144, ↓st_144, ↓ln_144, ↓s_within', av_cI_r, av_cL_r, av_cV_r, Option.bind_some, ↓zb_0, ↓zb_1, ↓zb_b, q2, q4, isPan, nI_clamp, Bool.true_and, Bool.true_eq_false, if_false, tI_0, toI_sub1, toI_nI, bI_0]
      cases rg f 0 ((F : Int) - 1) <;> cases rg c 0 ((C : Int) - 1) <;> rfl
  · simp [ht, isPan, bI]
theorem s_isPane' (w : WF h) (J : R_tow h) (t s f c : Int32) {β : Type} (Kc : Int32 × av_H → Option β) : (av_cI (ev X (d + 3) 259 [vr (some 137), vi t, vi s, vi f, vi c] h)).bind Kc = Kc (bI (isPan h t s f c), h) := by rw [s_isPane w J t s f c]; rfl
theorem s_paneOf (t s f c : Nat) : ev X (d + 1) 258 [vi (nI t), vi (nI s), vi (nI f), vi (nI c)] h = av_rI (nI (((4 * t + s) * 12 + f) * 10 + c)) h := by
  simp only [e_258, b_258_0, nI_lit, pk_mul, nI_add]
theorem s_paneOf' (t s f c : Nat) {β : Type} (Kc : Int32 × av_H → Option β) : (av_cI (ev X (d + 1) 258 [vi (nI t), vi (nI s), vi (nI f), vi (nI c)] h)).bind Kc = Kc (nI (((4 * t + s) * 12 + f) * 10 + c), h) := by rw [s_paneOf t s f c]; rfl
theorem s_stopOf (t s x : Nat) : ev X (d + 1) 261 [vi (nI t), vi (nI s), vi (nI x)] h = av_rI (nI ((4 * t + s) * 10 + x)) h := by
  simp only [e_261, b_261_0, nI_lit, pk_mul, nI_add]
theorem s_stopOf' (t s x : Nat) {β : Type} (Kc : Int32 × av_H → Option β) : (av_cI (ev X (d + 1) 261 [vi (nI t), vi (nI s), vi (nI x)] h)).bind Kc = Kc (nI ((4 * t + s) * 10 + x), h) := by rw [s_stopOf t s x]; rfl
theorem c_sideP (t s : Nat) : ev X (d + 1) 198 [vi (nI t), vi (nI s)] h = av_rI (nI (t * 4 + s)) h := by
  simp only [e_198, b_198_0, nI_lit, pk_mul, nI_add]
theorem c_sideP' (t s : Nat) {β : Type} (Kc : Int32 × av_H → Option β) : (av_cI (ev X (d + 1) 198 [vi (nI t), vi (nI s)] h)).bind Kc = Kc (nI (t * 4 + s), h) := by rw [c_sideP t s]; rfl
theorem c_colP (t s c : Nat) : ev X (d + 2) 199 [vi (nI t), vi (nI s), vi (nI c)] h = av_rI (nI ((t * 4 + s) * 10 + c)) h := by
  simp only [e_199, b_199_0, ↓c_sideP', av_cI_r, av_cL_r, av_cV_r, Option.bind_some, ↓zb_0, ↓zb_1, ↓zb_b, nI_lit, pk_mul, nI_add]
theorem c_colP' (t s c : Nat) {β : Type} (Kc : Int32 × av_H → Option β) : (av_cI (ev X (d + 2) 199 [vi (nI t), vi (nI s), vi (nI c)] h)).bind Kc = Kc (nI ((t * 4 + s) * 10 + c), h) := by rw [c_colP t s c]; rfl
theorem c_paneP (t s f c : Nat) : ev X (d + 3) 200 [vi (nI t), vi (nI s), vi (nI f), vi (nI c)] h = av_rI (nI (((t * 4 + s) * 10 + c) * 12 + f)) h := by
  simp only [e_200, b_200_0, ↓c_colP', av_cI_r, av_cL_r, av_cV_r, Option.bind_some, ↓zb_0, ↓zb_1, ↓zb_b, nI_lit, pk_mul, nI_add]
theorem c_paneP' (t s f c : Nat) {β : Type} (Kc : Int32 × av_H → Option β) : (av_cI (ev X (d + 3) 200 [vi (nI t), vi (nI s), vi (nI f), vi (nI c)] h)).bind Kc = Kc (nI (((t * 4 + s) * 10 + c) * 12 + f), h) := by rw [c_paneP t s f c]; rfl
end
