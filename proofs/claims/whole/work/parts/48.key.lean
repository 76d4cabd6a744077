/-! keys: key, holds, out -/
/-- the places of one part are among the other's -/
def fpS (q : Bool) (cs : List Nat) (fs : List (Nat × Nat)) (r : Bool) (ds : List Nat) (gs : List (Nat × Nat)) : Bool := (!q || r) && cs.all (fun a => ds.elem a) && fs.all (fun z => gs.elem z || ds.elem z.1)
theorem agr.sub {q r : Bool} {cs ds : List Nat} {fs gs : List (Nat × Nat)} {h h' : av_H} (A : agr (FP r ds gs) h h') (D : fpS q cs fs r ds gs = true) : agr (FP q cs fs) h h' := by
  refine A.mono (fun a k e => ?_)
  simp only [fpS, FP, Bool.and_eq_true, Bool.or_eq_true, Bool.not_eq_true', List.all_eq_true, List.elem_eq_mem, decide_eq_true_eq] at D e ⊢
  obtain ⟨⟨D1, D2⟩, D3⟩ := D
  rcases e with (⟨e1, e2⟩ | e1) | e1
  · subst e1
    rcases D1 with D1 | D1
    · cases D1
    · exact Or.inl (Or.inl ⟨D1, e2⟩)
  · exact Or.inl (Or.inr (D2 a e1))
  · rcases D3 (a, k) e1 with z | z
    · exact Or.inr z
    · exact Or.inl (Or.inr z)
/-- nobody, or somebody -/
def oI : Option Nat → Int32
  | none => -1
  | some p => nI p
theorem oI_inj {a b : Option Nat} (ha : ∀ p, a = some p → p < 2147483648) (hb : ∀ p, b = some p → p < 2147483648) : oI a = oI b ↔ a = b := by
  cases a with
  | none =>
    cases b with
    | none => simp
    | some q =>
      simp only [oI, reduceCtorEq, iff_false]
      intro e
      have := congrArg Int32.toInt e
      rw [toI_nI (hb q rfl)] at this
      have h1 : (-1 : Int32).toInt = -1 := by decide
      omega
  | some p =>
    cases b with
    | none =>
      simp only [oI, reduceCtorEq, iff_false]
      intro e
      have := congrArg Int32.toInt e
      rw [toI_nI (ha p rfl)] at this
      have h1 : (-1 : Int32).toInt = -1 := by decide
      omega
    | some q => simp only [oI, Option.some.injEq, nI_eq (ha p rfl) (hb q rfl)]
/-- who holds tower t's keys at hour hr, by the first n lines -/
def hol (T P K : Nat → Nat) (B : Nat → Bool) (t hr : Nat) : Nat → Option Nat
  | 0 => none
  | n + 1 => if T n = t ∧ K n ≤ hr then (if B n = true then some (P n) else none) else hol T P K B t hr n
/-- the longest that they were out, and since when they are -/
def ost (T K : Nat → Nat) (B : Nat → Bool) (t hr : Nat) : Nat → Nat × Option Nat
  | 0 => (0, none)
  | n + 1 => if T n = t ∧ K n ≤ hr then (if B n = true then ((ost T K B t hr n).1, some (K n)) else (Nat.max (ost T K B t hr n).1 (K n - (ost T K B t hr n).2.getD 0), none)) else ost T K B t hr n
theorem hol_stop {T P K : Nat → Nat} {B : Nat → Bool} {t hr i : Nat} : ∀ n, (∀ j, i ≤ j → j < i + n → hr < K j) → hol T P K B t hr (i + n) = hol T P K B t hr i
  | 0, _ => rfl
  | n + 1, h => by
    rw [← Nat.add_assoc, hol, if_neg (fun z => by have := h (i + n) (by omega) (by omega); omega)]
    exact hol_stop n (fun j a b => h j a (by omega))
theorem ost_stop {T K : Nat → Nat} {B : Nat → Bool} {t hr i : Nat} : ∀ n, (∀ j, i ≤ j → j < i + n → hr < K j) → ost T K B t hr (i + n) = ost T K B t hr i
  | 0, _ => rfl
  | n + 1, h => by
    rw [← Nat.add_assoc, ost, if_neg (fun z => by have := h (i + n) (by omega) (by omega); omega)]
    exact ost_stop n (fun j a b => h j a (by omega))
theorem hol_hr {T P K : Nat → Nat} {B : Nat → Bool} {t a b : Nat} : ∀ n, (∀ j, j < n → K j ≤ a ∧ K j ≤ b) → hol T P K B t a n = hol T P K B t b n
  | 0, _ => rfl
  | n + 1, h => by
    rw [hol, hol, hol_hr n (fun j z => h j (by omega))]
    have := h n (by omega)
    simp only [this.1, this.2, and_true]
theorem hol_cong {T P K T' P' K' : Nat → Nat} {B B' : Nat → Bool} {t hr : Nat} : ∀ n, (∀ j, j < n → T j = T' j ∧ P j = P' j ∧ K j = K' j ∧ B j = B' j) → hol T P K B t hr n = hol T' P' K' B' t hr n
  | 0, _ => rfl
  | n + 1, h => by
    obtain ⟨a, b, c, e⟩ := h n (by omega)
    rw [hol, hol, a, b, c, e, hol_cong n (fun j z => h j (by omega))]
theorem hol_ost {T P K : Nat → Nat} {B : Nat → Bool} {t hr : Nat} : ∀ n, (hol T P K B t hr n).isSome = (ost T K B t hr n).2.isSome
  | 0 => rfl
  | n + 1 => by
    rw [hol, ost]
    split
    · split <;> rfl
    · exact hol_ost n
theorem hol_lt {T P K : Nat → Nat} {B : Nat → Bool} {t hr : Nat} {m c : Nat} (h : ∀ j, j < m → P j < c) : ∀ n, n ≤ m → ∀ p, hol T P K B t hr n = some p → p < c
  | 0, _, p, e => by cases e
  | n + 1, hn, p, e => by
    rw [hol] at e
    split at e
    · split at e
      · rw [← Option.some.inj e]
        exact h n (by omega)
      · cases e
    · exact hol_lt h n (by omega) p e
theorem ost_le {T K : Nat → Nat} {B : Nat → Bool} {t hr m : Nat} (s : ∀ i j, i < j → j < m → K i ≤ K j) : ∀ n, n < m → ∀ k, (ost T K B t hr n).2 = some k → k ≤ K n
  | 0, _, k, e => by cases e
  | n + 1, hn, k, e => by
    rw [ost] at e
    split at e
    · split at e
      · rw [← Option.some.inj e]
        exact s n (n + 1) (by omega) hn
      · cases e
    · exact Nat.le_trans (ost_le s n (by omega) k e) (s n (n + 1) (by omega) hn)
theorem ost_hr {T K : Nat → Nat} {B : Nat → Bool} {t hr : Nat} : ∀ n, ∀ k, (ost T K B t hr n).2 = some k → k ≤ hr
  | 0, k, e => by cases e
  | n + 1, k, e => by
    rw [ost] at e
    split at e
    · rename_i z
      split at e
      · rw [← Option.some.inj e]
        exact z.2
      · cases e
    · exact ost_hr n k e
theorem ost_lt {T K : Nat → Nat} {B : Nat → Bool} {t hr m c : Nat} (h : ∀ j, j < m → K j < c) (h0 : 0 < c) : ∀ n, n ≤ m → (ost T K B t hr n).1 < c
  | 0, _ => h0
  | n + 1, hn => by
    have i1 := ost_lt (t := t) (hr := hr) (B := B) (T := T) h h0 n (by omega)
    have i2 := h n (by omega)
    rw [ost]
    split
    · split
      · exact i1
      · exact Nat.max_lt.mpr ⟨i1, by omega⟩
    · exact i1
theorem oI_s (k : Nat) : oI (some k) = nI k := rfl
theorem oI_n : oI none = -1 := rfl
/-- the key book of the reference -/
def kyF (h : av_H) (m : Nat) (T P K : Nat → Nat) (B : Nat → Bool) : Prop := m ≤ 60 ∧ h.2.1 137 80 = nI m ∧
  (∀ i, i < m → T i < 6 ∧ P i < 10 ∧ K i < 2400 ∧ h.2.1 200 i = nI (T i) ∧ h.2.1 201 i = nI (P i) ∧ h.2.1 202 i = nI (K i) ∧ h.2.1 203 i = bI (B i)) ∧
  (∀ i j, i < j → j < m → K i ≤ K j) ∧ (∀ i, i < m → hol T P K B (T i) 2400 i = if B i = true then none else some (P i))
/-- on both sides -/
def kyE (h : av_H) (m : Nat) (T P K : Nat → Nat) (B : Nat → Bool) : Prop := kyF h m T P K B ∧ h.2.1 41 0 = nI m ∧
  ∀ i, i < m → h.2.1 42 i = nI (T i) ∧ h.2.1 43 i = nI (P i) ∧ h.2.1 44 i = nI (K i) ∧ h.2.1 45 i = bI (B i)
def J_ke (h : av_H) : Prop := ∃ (m : Nat) (T P K : Nat → Nat) (B : Nat → Bool), kyE h m T P K B
theorem kyF.fr {h h' : av_H} {m : Nat} {T P K : Nat → Nat} {B : Nat → Bool} (J : kyF h m T P K B) (A : agr (FP false [200, 201, 202, 203] [(137, 80)]) h h') : kyF h' m T P K B := by
  obtain ⟨h1, h3, h4, h5⟩ := J
  refine ⟨h1, (A.I rfl).trans h3, fun i hi => ?_, h5⟩
  rw [A.I rfl, A.I rfl, A.I rfl, A.I rfl]
  exact h4 i hi
theorem kyE.fr {h h' : av_H} {m : Nat} {T P K : Nat → Nat} {B : Nat → Bool} (J : kyE h m T P K B) (A : agr (FP false [42, 43, 44, 45, 200, 201, 202, 203] [(41, 0), (137, 80)]) h h') : kyE h' m T P K B := by
  obtain ⟨h1, h2, h3⟩ := J
  refine ⟨h1.fr (A.sub rfl), (A.I rfl).trans h2, fun i hi => ?_⟩
  rw [A.I rfl, A.I rfl, A.I rfl, A.I rfl]
  exact h3 i hi
theorem J_ke.fr {h h' : av_H} (J : J_ke h) (A : agr (FP false [42, 43, 44, 45, 200, 201, 202, 203] [(41, 0), (137, 80)]) h h') : J_ke h' := by
  obtain ⟨m, T, P, K, B, J⟩ := J
  exact ⟨m, T, P, K, B, J.fr A⟩
section
variable {X : av_X} {d : Nat} {h : av_H}
theorem s_hold_lp (w : WF h) {m : Nat} {T P K : Nat → Nat} {B : Nat → Bool} (J : kyF h m T P K B) (t hr : Nat) (ht : t < 6) (hh : hr < 3000) : ∀ n i, i + n = m → bd X d 344 4 [(0, vr (some 137)), (1, vi (nI t)), (2, vi (nI hr)), (3, vi (oI (hol T P K B t hr i))), (4, vi (nI i))] [] h = av_rI (oI (hol T P K B t hr m)) h
  | 0, i, hi => by
    obtain rfl : i = m := by omega
    have := J.1
    rw [b_344_4, gI_137_80 w, J.2.1, if_neg (nI_nlt (by omega) (by omega))]
  | n + 1, i, hi => by
    have hm := J.1
    obtain ⟨a1, a2, a3, e2, e4, e6, e8⟩ := J.2.2.1 i (by omega)
    have ih := s_hold_lp w J t hr ht hh n (i + 1) (by omega)
    rw [b_344_4, gI_137_80 w, J.2.1, if_pos (nI_lt (by omega) (by omega)), gR_137_81 w, ld_200 w (by omega), e2]
    by_cases q1 : T i = t
    · rw [if_pos (congrArg nI q1), gR_137_83 w, ld_202 w (by omega), e6]
      by_cases q2 : hr < K i
      · rw [if_pos (nI_lt q2 (by omega)), nI_1, ← ih, hol, if_neg (by omega)]
      · rw [if_neg (nI_nlt (by omega) (by omega)), gR_137_84 w, ld_203 w (by omega), e8, nI_1]
        rw [hol, if_pos ⟨q1, by omega⟩] at ih
        cases q3 : B i with
        | false =>
          rw [q3] at ih
          rw [if_pos (show bI false = 0 from rfl)]
          exact ih
        | true =>
          rw [q3] at ih
          rw [if_neg (by decide), gR_137_82 w, ld_201 w (by omega), e4]
          exact ih
    · rw [if_neg (fun z => q1 ((nI_eq (by omega) (by omega)).mp z)), nI_1, ← ih, hol, if_neg (fun z => q1 z.1)]
theorem s_holder {m t hr : Nat} {T P K : Nat → Nat} {B : Nat → Bool} (w : WF h) (J : kyF h m T P K B) (ht : t < 6) (hh : hr < 3000) : ev X (d + 1) 344 [vr (some 137), vi (nI t), vi (nI hr)] h = av_rI (oI (hol T P K B t hr m)) h := by
  rw [e_344, b_344_0]
  exact s_hold_lp w J t hr ht hh m 0 (by omega)
theorem s_holder' {m t hr : Nat} {T P K : Nat → Nat} {B : Nat → Bool} (w : WF h) (J : kyF h m T P K B) (ht : t < 6) (hh : hr < 3000) {β : Type} (Kc : Int32 × av_H → Option β) : (av_cI (ev X (d + 1) 344 [vr (some 137), vi (nI t), vi (nI hr)] h)).bind Kc = Kc (oI (hol T P K B t hr m), h) := by rw [s_holder w J ht hh]; rfl
theorem c_hold_lp (w : WF h) {m : Nat} {T P K : Nat → Nat} {B : Nat → Bool} (J : kyE h m T P K B) (t hr : Nat) (ht : t < 6) (hh : hr < 3000) : ∀ n i, i + n = m → bd X d 15 4 [(0, vr (some 41)), (1, vi (nI t)), (2, vi (nI hr)), (3, vi (oI (hol T P K B t hr i))), (4, vi (nI i))] [] h = av_rI (oI (hol T P K B t hr m)) h
  | 0, i, hi => by
    obtain rfl : i = m := by omega
    have := J.1.1
    rw [b_15_4, gI_41_0 w, J.2.1, if_neg (nI_nlt (by omega) (by omega))]
  | n + 1, i, hi => by
    have hm := J.1.1
    obtain ⟨a1, a2, a3, -⟩ := J.1.2.2.1 i (by omega)
    obtain ⟨e1, e3, e5, e7⟩ := J.2.2 i (by omega)
    have ih := c_hold_lp w J t hr ht hh n (i + 1) (by omega)
    rw [b_15_4, gI_41_0 w, J.2.1, if_pos (nI_lt (by omega) (by omega)), gR_41_3 w, ld_44 w (by omega), e5]
    by_cases q2 : hr < K i
    · rw [if_pos (nI_lt q2 (by omega)), show m = i + (n + 1) by omega, hol_stop (n + 1) (fun j a b => by
        by_cases z : j = i
        · subst z
          exact q2
        · have := J.1.2.2.2.1 i j (by omega) (by omega)
          omega)]
    · rw [if_neg (nI_nlt (by omega) (by omega)), gR_41_1 w, ld_42 w (by omega), e1]
      by_cases q1 : T i = t
      · rw [if_pos (congrArg nI q1), gR_41_4 w, ld_45 w (by omega), e7, nI_1]
        rw [hol, if_pos ⟨q1, by omega⟩] at ih
        cases q3 : B i with
        | false =>
          rw [q3] at ih
          rw [if_pos (show bI false = 0 from rfl)]
          exact ih
        | true =>
          rw [q3] at ih
          rw [if_neg (by decide), gR_41_2 w, ld_43 w (by omega), e3]
          exact ih
      · rw [if_neg (fun z => q1 ((nI_eq (by omega) (by omega)).mp z)), nI_1, ← ih, hol, if_neg (fun z => q1 z.1)]
theorem c_holder {m t hr : Nat} {T P K : Nat → Nat} {B : Nat → Bool} (w : WF h) (J : kyE h m T P K B) (ht : t < 6) (hh : hr < 3000) : ev X (d + 1) 15 [vr (some 41), vi (nI t), vi (nI hr)] h = av_rI (oI (hol T P K B t hr m)) h := by
  rw [e_15, b_15_0]
  exact c_hold_lp w J t hr ht hh m 0 (by omega)
theorem c_holder' {m t hr : Nat} {T P K : Nat → Nat} {B : Nat → Bool} (w : WF h) (J : kyE h m T P K B) (ht : t < 6) (hh : hr < 3000) {β : Type} (Kc : Int32 × av_H → Option β) : (av_cI (ev X (d + 1) 15 [vr (some 41), vi (nI t), vi (nI hr)] h)).bind Kc = Kc (oI (hol T P K B t hr m), h) := by rw [c_holder w J ht hh]; rfl
def okH (h : av_H) (t e k : Int32) : Bool := told h t && rg e 0 99 && rg k 0 23
theorem holds_ok (w : WF h) (J : J_tow h) (N : J_ke h) (t e k : Int32) : ∃ v h1 h2, ev X (d + 3) 165 [vr (some 0), vi t, vi e, vi k] h = av_rI v h1 ∧ ev X (d + 3) 346 [vr (some 137), vi t, vi e, vi k] h1 = av_rI v h2 ∧ WF h2 ∧ off false [] [(137, 0)] h h2 := by
  cases ok : okH h t e k with
  | false =>
    refine ⟨-1, h, th h, ?_, ?_, w, agr.uI rfl agr.rfl⟩
    · rcases bdi (told h t) with q1 | q1
      · simp (disch := first | ((repeat (first | with_reducible apply WF_uI | with_reducible apply WF_uL | with_reducible apply WF_th | with_reducible apply WF_fillL | with_reducible apply WF_fgt)); with_reducible assumption) | omega | (simp only [uI_1, uL_1, th_1, uI_R, uL_R]; with_reducible assumption)) only [e_165, b_165_0, ↓is_0, ↓c_isTold', ↓c_isDay', ↓c_isHour', ↓reduceIte, i10, av_cI_r, av_cL_r, av_cV_r, Option.bind_some, ↓zb_0, ↓zb_1, ↓zb_b, bI_0, q1, Bool.true_eq_false]
      rcases bdi (rg e 0 99) with q2 | q2
      · simp (disch := first | ((repeat (first | with_reducible apply WF_uI | with_reducible apply WF_uL | with_reducible apply WF_th | with_reducible apply WF_fillL | with_reducible apply WF_fgt)); with_reducible assumption) | omega | (simp only [uI_1, uL_1, th_1, uI_R, uL_R]; with_reducible assumption)) only [e_165, b_165_0, ↓is_0, ↓c_isTold', ↓c_isDay', ↓c_isHour', ↓reduceIte, i10, av_cI_r, av_cL_r, av_cV_r, Option.bind_some, ↓zb_0, ↓zb_1, ↓zb_b, bI_0, q1, q2, Bool.true_eq_false]
      rcases bdi (rg k 0 23) with q3 | q3
      · simp (disch := first | ((repeat (first | with_reducible apply WF_uI | with_reducible apply WF_uL | with_reducible apply WF_th | with_reducible apply WF_fillL | with_reducible apply WF_fgt)); with_reducible assumption) | omega | (simp only [uI_1, uL_1, th_1, uI_R, uL_R]; with_reducible assumption)) only [e_165, b_165_0, ↓is_0, ↓c_isTold', ↓c_isDay', ↓c_isHour', ↓reduceIte, i10, av_cI_r, av_cL_r, av_cV_r, Option.bind_some, ↓zb_0, ↓zb_1, ↓zb_b, bI_0, q1, q2, q3, Bool.true_eq_false]
      simp [okH, q1, q2, q3] at ok
    · rcases bdi (told h t) with q1 | q1
      · simp (disch := first | ((repeat (first | with_reducible apply WF_uI | with_reducible apply WF_uL | with_reducible apply WF_th | with_reducible apply WF_fillL | with_reducible apply WF_fgt)); with_reducible assumption) | omega | (simp only [uI_1, uL_1, th_1, uI_R, uL_R]; with_reducible assumption)) only [e_346, b_346_0, ↓pI_137, th_e, ↓is_137, ↓s_isTower', ↓s_isDay', ↓s_isHour', ↓reduceIte, i10, av_cI_r, av_cL_r, av_cV_r, Option.bind_some, ↓zb_0, ↓zb_1, ↓zb_b, bI_0, told_th, q1, Bool.true_eq_false]
      rcases bdi (rg e 0 99) with q2 | q2
      · simp (disch := first | ((repeat (first | with_reducible apply WF_uI | with_reducible apply WF_uL | with_reducible apply WF_th | with_reducible apply WF_fillL | with_reducible apply WF_fgt)); with_reducible assumption) | omega | (simp only [uI_1, uL_1, th_1, uI_R, uL_R]; with_reducible assumption)) only [e_346, b_346_0, ↓pI_137, th_e, ↓is_137, ↓s_isTower', ↓s_isDay', ↓s_isHour', ↓reduceIte, i10, av_cI_r, av_cL_r, av_cV_r, Option.bind_some, ↓zb_0, ↓zb_1, ↓zb_b, bI_0, told_th, q1, q2, Bool.true_eq_false]
      rcases bdi (rg k 0 23) with q3 | q3
      · simp (disch := first | ((repeat (first | with_reducible apply WF_uI | with_reducible apply WF_uL | with_reducible apply WF_th | with_reducible apply WF_fillL | with_reducible apply WF_fgt)); with_reducible assumption) | omega | (simp only [uI_1, uL_1, th_1, uI_R, uL_R]; with_reducible assumption)) only [e_346, b_346_0, ↓pI_137, th_e, ↓is_137, ↓s_isTower', ↓s_isDay', ↓s_isHour', ↓reduceIte, i10, av_cI_r, av_cL_r, av_cV_r, Option.bind_some, ↓zb_0, ↓zb_1, ↓zb_b, bI_0, told_th, q1, q2, q3, Bool.true_eq_false]
      simp [okH, q1, q2, q3] at ok
  | true =>
    obtain ⟨⟨q1, q2⟩, q3⟩ : (told h t = true ∧ rg e 0 99 = true) ∧ rg k 0 23 = true := by simpa only [okH, Bool.and_eq_true] using ok
    obtain ⟨t, a, h6, rfl, hj, T0⟩ := told_ex J q1
    obtain ⟨e, he, rfl⟩ := rg_nI (b := 99) (by decide) q2
    obtain ⟨k, hk, rfl⟩ := rg_nI (b := 23) (by decide) q3
    obtain ⟨m, T, P, K, B, N⟩ := N
    have N2 : kyF (th h) m T P K B := N.1.fr (agr.uI rfl agr.rfl)
    refine ⟨oI (hol T P K B t (e * 24 + k) m), h, th h, ?_, ?_, w, agr.uI rfl agr.rfl⟩
    · simp (disch := first | ((repeat (first | with_reducible apply WF_uI | with_reducible apply WF_uL | with_reducible apply WF_th | with_reducible apply WF_fillL | with_reducible apply WF_fgt)); with_reducible assumption) | omega | (simp only [uI_1, uL_1, th_1, uI_R, uL_R]; with_reducible assumption)) only [e_165, b_165_0, ↓is_0, ↓c_isTold', ↓c_isDay', ↓c_isHour', ↓reduceIte, i10, av_cI_r, av_cL_r, av_cV_r, Option.bind_some, ↓zb_0, ↓zb_1, ↓zb_b, bI_0, q1, q2, q3, Bool.true_eq_false, ↓gR_0_8, ↓is_41]
      simp only [lit_24, pk_mul, nI_add]
      rw [c_holder' (d := d + 1) w N h6 (by omega)]
    · simp (disch := first | ((repeat (first | with_reducible apply WF_uI | with_reducible apply WF_uL | with_reducible apply WF_th | with_reducible apply WF_fillL | with_reducible apply WF_fgt)); with_reducible assumption) | omega | (simp only [uI_1, uL_1, th_1, uI_R, uL_R]; with_reducible assumption)) only [e_346, b_346_0, ↓pI_137, th_e, ↓is_137, ↓s_isTower', ↓s_isDay', ↓s_isHour', ↓reduceIte, i10, av_cI_r, av_cL_r, av_cV_r, Option.bind_some, ↓zb_0, ↓zb_1, ↓zb_b, bI_0, told_th, q1, q2, q3, Bool.true_eq_false]
      simp only [lit_24, pk_mul, nI_add, Nat.mul_comm 24 e]
      rw [s_holder' (d := d + 1) (WF_th w) N2 h6 (by omega)]
end
