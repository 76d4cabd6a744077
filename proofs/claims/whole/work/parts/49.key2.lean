/-! out, key -/
theorem nI_max {a b : Nat} (ha : a < 2147483648) (hb : b < 2147483648) : (if nI a < nI b then nI b else nI a) = nI (Nat.max a b) := by
  by_cases q : a < b
  · rw [if_pos (nI_lt q hb), show Nat.max a b = max a b from rfl, Nat.max_def, if_pos (by omega)]
  · rw [if_neg (nI_nlt (by omega) ha), show Nat.max a b = max a b from rfl, Nat.max_def]
    by_cases e : a ≤ b
    · rw [if_pos e, show a = b by omega]
    · rw [if_neg e]
theorem m1_lt : (-1 : Int32) < 0 := by decide
/-- how the keys were out -/
def outv (q : Nat × Option Nat) (hr : Nat) : Nat := match q.2 with
  | none => q.1
  | some k => Nat.max q.1 (hr - k)
theorem key_alt {h : av_H} {m : Nat} {T P K : Nat → Nat} {B : Nat → Bool} (J : kyF h m T P K B) {t hr i : Nat} (hi : i < m) (e : T i = t) (q : K i ≤ hr) : (ost T K B t hr i).2.isSome = !B i := by
  rw [← hol_ost (P := P), hol_hr (b := 2400) i (fun j hj => ⟨Nat.le_trans (J.2.2.2.1 j i hj hi) q, by have := (J.2.2.1 j (by omega)).2.2.1; omega⟩), ← e, J.2.2.2.2 i hi]
  cases B i <;> rfl
section
variable {X : av_X} {d : Nat} {h : av_H}
theorem s_out_lp (w : WF h) {m : Nat} {T P K : Nat → Nat} {B : Nat → Bool} (J : kyF h m T P K B) (t hr : Nat) (ht : t < 6) (hh : hr < 3000) : ∀ n i, i + n = m → bd X d 347 27 [(0, vr (some 137)), (1, vi (nI t)), (4, vi (nI hr)), (5, vi (nI (ost T K B t hr i).1)), (6, vi (oI (ost T K B t hr i).2)), (7, vi (nI i))] [] h = av_rI (nI (outv (ost T K B t hr m) hr)) h
  | 0, i, hi => by
    obtain rfl : i = m := by omega
    have hm := J.1
    have lt := ost_lt (t := t) (hr := hr) (B := B) (T := T) (m := i) (c := 2400) (fun j hj => (J.2.2.1 j hj).2.2.1) (by omega) i (Nat.le_refl i)
    have lk := ost_hr (T := T) (K := K) (B := B) (t := t) (hr := hr) i
    rw [b_347_27, gI_137_80 w, J.2.1, if_neg (nI_nlt (by omega) (by omega)), outv]
    cases q : (ost T K B t hr i).2 with
    | none => rw [oI_n, if_pos m1_lt, b_347_82, if_neg (fun z => nI_pos (by omega) z)]
    | some k =>
      have := lk k q
      rw [oI_s]
      rw [if_neg (nI_pos (by omega)), b_347_82, pk_sub this, ← nI_max (by omega) (by omega)]
      split <;> rfl
  | n + 1, i, hi => by
    have hm := J.1
    obtain ⟨a1, a2, a3, e2, e4, e6, e8⟩ := J.2.2.1 i (by omega)
    have lt := ost_lt (t := t) (hr := hr) (B := B) (T := T) (m := m) (c := 2400) (fun j hj => (J.2.2.1 j hj).2.2.1) (by omega) i (by omega)
    have lk := ost_le (T := T) (K := K) (B := B) (t := t) (hr := hr) J.2.2.2.1 i (by omega)
    have ih := s_out_lp w J t hr ht hh n (i + 1) (by omega)
    rw [b_347_27, gI_137_80 w, J.2.1, if_pos (nI_lt (by omega) (by omega)), gR_137_81 w, ld_200 w (by omega), e2]
    by_cases q1 : T i = t
    · rw [if_pos (congrArg nI q1), gR_137_83 w, ld_202 w (by omega), e6]
      by_cases q2 : hr < K i
      · rw [if_pos (nI_lt q2 (by omega)), nI_1, ← ih, ost, if_neg (by omega)]
      · have al := key_alt J (i := i) (by omega) q1 (show K i ≤ hr by omega)
        rw [if_neg (nI_nlt (by omega) (by omega))]
        rw [ost, if_pos ⟨q1, by omega⟩] at ih
        cases q3 : B i with
        | true =>
          rw [q3, if_pos rfl] at ih
          rw [q3] at al e8
          have q4 : (ost T K B t hr i).2 = none := by
            cases z : (ost T K B t hr i).2 with
            | none => rfl
            | some k => rw [z] at al; cases al
          rw [q4, oI_n, if_pos m1_lt, b_347_53, if_neg (fun z => nI_pos (by omega) z), b_347_60, gR_137_84 w, ld_203 w (by omega), e8, if_neg (by decide), gR_137_83 w, ld_202 w (by omega), e6, nI_1]
          exact ih
        | false =>
          rw [q3, if_neg (by decide)] at ih
          rw [q3] at al e8
          obtain ⟨k, q4⟩ : ∃ k, (ost T K B t hr i).2 = some k := by
            cases z : (ost T K B t hr i).2 with
            | none => rw [z] at al; cases al
            | some k => exact ⟨k, rfl⟩
          have := lk k q4
          rw [q4] at ih
          simp only [Option.getD_some] at ih
          rw [q4]
          rw [oI_s]
          rw [if_neg (nI_pos (by omega)), gR_137_83 w, ld_202 w (by omega), e6, pk_sub this, b_347_53]
          have e9 : ∀ v : Int32, bd X d 347 60 [(0, vr (some 137)), (1, vi (nI t)), (4, vi (nI hr)), (7, vi (nI i))] [vi v] h = bd X d 347 27 [(0, vr (some 137)), (1, vi (nI t)), (4, vi (nI hr)), (5, vi v), (6, vi (-1)), (7, vi (nI (i + 1)))] [] h := fun v => by
            rw [b_347_60, gR_137_84 w, ld_203 w (by omega), e8, if_pos (show bI false = 0 from rfl), nI_1]
          rw [e9, e9, ← nI_max (by omega) (by omega)] at *
          rw [← ih]
          split <;> rfl
    · rw [if_neg (fun z => q1 ((nI_eq (by omega) (by omega)).mp z)), nI_1, ← ih, ost, if_neg (fun z => q1 z.1)]
theorem c_out_lp (w : WF h) {m : Nat} {T P K : Nat → Nat} {B : Nat → Bool} (J : kyE h m T P K B) (t hr : Nat) (ht : t < 6) (hh : hr < 3000) : ∀ n i, i + n = m → bd X (d + 1) 16 6 [(0, vr (some 41)), (1, vi (nI t)), (2, vi (nI hr)), (3, vi (nI (ost T K B t hr i).1)), (4, vi (oI (ost T K B t hr i).2)), (5, vi (nI i))] [] h = bd X (d + 1) 16 52 [(2, vi (nI hr)), (3, vi (nI (ost T K B t hr m).1)), (4, vi (oI (ost T K B t hr m).2))] [] h
  | 0, i, hi => by
    obtain rfl : i = m := by omega
    have := J.1.1
    rw [b_16_6, gI_41_0 w, J.2.1, if_neg (nI_nlt (by omega) (by omega))]
  | n + 1, i, hi => by
    have hm := J.1.1
    obtain ⟨a1, a2, a3, -⟩ := J.1.2.2.1 i (by omega)
    obtain ⟨e1, e3, e5, e7⟩ := J.2.2 i (by omega)
    have lt := ost_lt (t := t) (hr := hr) (B := B) (T := T) (m := m) (c := 2400) (fun j hj => (J.1.2.2.1 j hj).2.2.1) (by omega) i (by omega)
    have lk := ost_le (T := T) (K := K) (B := B) (t := t) (hr := hr) J.1.2.2.2.1 i (by omega)
    have ih := c_out_lp w J t hr ht hh n (i + 1) (by omega)
    rw [b_16_6, gI_41_0 w, J.2.1, if_pos (nI_lt (by omega) (by omega)), gR_41_3 w, ld_44 w (by omega), e5]
    by_cases q2 : hr < K i
    · rw [if_pos (nI_lt q2 (by omega)), show m = i + (n + 1) by omega, ost_stop (n + 1) (fun j a b => by
        by_cases z : j = i
        · subst z
          exact q2
        · have := J.1.2.2.2.1 i j (by omega) (by omega)
          omega)]
    · rw [if_neg (nI_nlt (by omega) (by omega)), gR_41_1 w, ld_42 w (by omega), e1]
      by_cases q1 : T i = t
      · have al := key_alt J.1 (i := i) (by omega) q1 (show K i ≤ hr by omega)
        rw [if_pos (congrArg nI q1), gR_41_4 w, ld_45 w (by omega), e7]
        rw [ost, if_pos ⟨q1, by omega⟩] at ih
        cases q3 : B i with
        | true =>
          rw [q3, if_pos rfl] at ih
          rw [if_neg (by decide), gR_41_3 w, ld_44 w (by omega), e5, nI_1]
          exact ih
        | false =>
          rw [q3, if_neg (by decide)] at ih
          rw [q3] at al
          obtain ⟨k, q4⟩ : ∃ k, (ost T K B t hr i).2 = some k := by
            cases z : (ost T K B t hr i).2 with
            | none => rw [z] at al; cases al
            | some k => exact ⟨k, rfl⟩
          have := lk k q4
          rw [q4] at ih
          simp only [Option.getD_some] at ih
          rw [q4]
          rw [oI_s]
          rw [if_pos (show bI false = 0 from rfl), b_16_33, gR_41_1 w, ld_42 w (by omega), e1, if_pos (congrArg nI q1), gR_41_3 w, ld_44 w (by omega), e5, pk_sub this, c_max', nI_max (by omega) (by omega), nI_1]
          exact ih
      · rw [if_neg (fun z => q1 ((nI_eq (by omega) (by omega)).mp z)), b_16_33, gR_41_1 w, ld_42 w (by omega), e1, if_neg (fun z => q1 ((nI_eq (by omega) (by omega)).mp z)), nI_1, ← ih, ost, if_neg (fun z => q1 z.1)]
theorem c_long {m t hr : Nat} {T P K : Nat → Nat} {B : Nat → Bool} (w : WF h) (J : kyE h m T P K B) (ht : t < 6) (hh : hr < 3000) : ev X (d + 2) 16 [vr (some 41), vi (nI t), vi (nI hr)] h = av_rI (nI (outv (ost T K B t hr m) hr)) h := by
  have hm := J.1.1
  have lt := ost_lt (t := t) (hr := hr) (B := B) (T := T) (m := m) (c := 2400) (fun j hj => (J.1.2.2.1 j hj).2.2.1) (by omega) m (Nat.le_refl m)
  have lk := ost_hr (T := T) (K := K) (B := B) (t := t) (hr := hr) m
  rw [e_16, b_16_0]
  refine (c_out_lp (d := d) w J t hr ht hh m 0 (by omega)).trans ?_
  rw [b_16_52, outv]
  cases q : (ost T K B t hr m).2 with
  | none => rw [oI_n, if_pos rfl]
  | some k =>
    have := lk k q
    rw [oI_s]
    rw [if_neg (fun z => by have := congrArg Int32.toInt z; rw [toI_nI (by omega)] at this; have h1 : (-1 : Int32).toInt = -1 := by decide
                            omega), pk_sub this, c_max', nI_max (by omega) (by omega)]
theorem c_long' {m t hr : Nat} {T P K : Nat → Nat} {B : Nat → Bool} (w : WF h) (J : kyE h m T P K B) (ht : t < 6) (hh : hr < 3000) {β : Type} (Kc : Int32 × av_H → Option β) : (av_cI (ev X (d + 2) 16 [vr (some 41), vi (nI t), vi (nI hr)] h)).bind Kc = Kc (nI (outv (ost T K B t hr m) hr), h) := by rw [c_long w J ht hh]; rfl
theorem out_ok (w : WF h) (J : J_tow h) (N : J_ke h) (t e k : Int32) : ∃ v h1 h2, ev X (d + 3) 166 [vr (some 0), vi t, vi e, vi k] h = av_rI v h1 ∧ ev X (d + 3) 347 [vr (some 137), vi t, vi e, vi k] h1 = av_rI v h2 ∧ WF h2 ∧ off false [] [(137, 0)] h h2 := by
  cases ok : okH h t e k with
  | false =>
    refine ⟨-1, h, th h, ?_, ?_, w, agr.uI rfl agr.rfl⟩
    · rcases bdi (told h t) with q1 | q1
      · simp (disch := first | ((repeat (first | with_reducible apply WF_uI | with_reducible apply WF_uL | with_reducible apply WF_th | with_reducible apply WF_fillL | with_reducible apply WF_fgt)); with_reducible assumption) | omega | (simp only [uI_1, uL_1, th_1, uI_R, uL_R]; with_reducible assumption)) only [e_166, b_166_0, ↓is_0, ↓c_isTold', ↓c_isDay', ↓c_isHour', ↓reduceIte, i10, av_cI_r, av_cL_r, av_cV_r, Option.bind_some, ↓zb_0, ↓zb_1, ↓zb_b, bI_0, q1, Bool.true_eq_false]
      rcases bdi (rg e 0 99) with q2 | q2
      · simp (disch := first | ((repeat (first | with_reducible apply WF_uI | with_reducible apply WF_uL | with_reducible apply WF_th | with_reducible apply WF_fillL | with_reducible apply WF_fgt)); with_reducible assumption) | omega | (simp only [uI_1, uL_1, th_1, uI_R, uL_R]; with_reducible assumption)) only [e_166, b_166_0, ↓is_0, ↓c_isTold', ↓c_isDay', ↓c_isHour', ↓reduceIte, i10, av_cI_r, av_cL_r, av_cV_r, Option.bind_some, ↓zb_0, ↓zb_1, ↓zb_b, bI_0, q1, q2, Bool.true_eq_false]
      rcases bdi (rg k 0 23) with q3 | q3
      · simp (disch := first | ((repeat (first | with_reducible apply WF_uI | with_reducible apply WF_uL | with_reducible apply WF_th | with_reducible apply WF_fillL | with_reducible apply WF_fgt)); with_reducible assumption) | omega | (simp only [uI_1, uL_1, th_1, uI_R, uL_R]; with_reducible assumption)) only [e_166, b_166_0, ↓is_0, ↓c_isTold', ↓c_isDay', ↓c_isHour', ↓reduceIte, i10, av_cI_r, av_cL_r, av_cV_r, Option.bind_some, ↓zb_0, ↓zb_1, ↓zb_b, bI_0, q1, q2, q3, Bool.true_eq_false]
      simp [okH, q1, q2, q3] at ok
    · rcases bdi (told h t) with q1 | q1
      · simp (disch := first | ((repeat (first | with_reducible apply WF_uI | with_reducible apply WF_uL | with_reducible apply WF_th | with_reducible apply WF_fillL | with_reducible apply WF_fgt)); with_reducible assumption) | omega | (simp only [uI_1, uL_1, th_1, uI_R, uL_R]; with_reducible assumption)) only [e_347, b_347_0, ↓pI_137, th_e, ↓is_137, ↓s_isTower', ↓s_isDay', ↓s_isHour', ↓reduceIte, i10, av_cI_r, av_cL_r, av_cV_r, Option.bind_some, ↓zb_0, ↓zb_1, ↓zb_b, bI_0, told_th, q1, Bool.true_eq_false]
      rcases bdi (rg e 0 99) with q2 | q2
      · simp (disch := first | ((repeat (first | with_reducible apply WF_uI | with_reducible apply WF_uL | with_reducible apply WF_th | with_reducible apply WF_fillL | with_reducible apply WF_fgt)); with_reducible assumption) | omega | (simp only [uI_1, uL_1, th_1, uI_R, uL_R]; with_reducible assumption)) only [e_347, b_347_0, ↓pI_137, th_e, ↓is_137, ↓s_isTower', ↓s_isDay', ↓s_isHour', ↓reduceIte, i10, av_cI_r, av_cL_r, av_cV_r, Option.bind_some, ↓zb_0, ↓zb_1, ↓zb_b, bI_0, told_th, q1, q2, Bool.true_eq_false]
      rcases bdi (rg k 0 23) with q3 | q3
      · simp (disch := first | ((repeat (first | with_reducible apply WF_uI | with_reducible apply WF_uL | with_reducible apply WF_th | with_reducible apply WF_fillL | with_reducible apply WF_fgt)); with_reducible assumption) | omega | (simp only [uI_1, uL_1, th_1, uI_R, uL_R]; with_reducible assumption)) only [e_347, b_347_0, ↓pI_137, th_e, ↓is_137, ↓s_isTower', ↓s_isDay', ↓s_isHour', ↓reduceIte, i10, av_cI_r, av_cL_r, av_cV_r, Option.bind_some, ↓zb_0, ↓zb_1, ↓zb_b, bI_0, told_th, q1, q2, q3, Bool.true_eq_false]
      simp [okH, q1, q2, q3] at ok
  | true =>
    obtain ⟨⟨q1, q2⟩, q3⟩ : (told h t = true ∧ rg e 0 99 = true) ∧ rg k 0 23 = true := by simpa only [okH, Bool.and_eq_true] using ok
    obtain ⟨t, a, h6, rfl, hj, T0⟩ := told_ex J q1
    obtain ⟨e, he, rfl⟩ := rg_nI (b := 99) (by decide) q2
    obtain ⟨k, hk, rfl⟩ := rg_nI (b := 23) (by decide) q3
    obtain ⟨m, T, P, K, B, N⟩ := N
    have N2 : kyF (th h) m T P K B := N.1.fr (agr.uI rfl agr.rfl)
    refine ⟨nI (outv (ost T K B t (e * 24 + k) m) (e * 24 + k)), h, th h, ?_, ?_, w, agr.uI rfl agr.rfl⟩
    · simp (disch := first | ((repeat (first | with_reducible apply WF_uI | with_reducible apply WF_uL | with_reducible apply WF_th | with_reducible apply WF_fillL | with_reducible apply WF_fgt)); with_reducible assumption) | omega | (simp only [uI_1, uL_1, th_1, uI_R, uL_R]; with_reducible assumption)) only [e_166, b_166_0, ↓is_0, ↓c_isTold', ↓c_isDay', ↓c_isHour', ↓reduceIte, i10, av_cI_r, av_cL_r, av_cV_r, Option.bind_some, ↓zb_0, ↓zb_1, ↓zb_b, bI_0, q1, q2, q3, Bool.true_eq_false, ↓gR_0_8, ↓is_41]
      simp only [lit_24, pk_mul, nI_add]
      rw [c_long' (d := d) w N h6 (by omega)]
    · simp (disch := first | ((repeat (first | with_reducible apply WF_uI | with_reducible apply WF_uL | with_reducible apply WF_th | with_reducible apply WF_fillL | with_reducible apply WF_fgt)); with_reducible assumption) | omega | (simp only [uI_1, uL_1, th_1, uI_R, uL_R]; with_reducible assumption)) only [e_347, b_347_0, ↓pI_137, th_e, ↓is_137, ↓s_isTower', ↓s_isDay', ↓s_isHour', ↓reduceIte, i10, av_cI_r, av_cL_r, av_cV_r, Option.bind_some, ↓zb_0, ↓zb_1, ↓zb_b, bI_0, told_th, q1, q2, q3, Bool.true_eq_false]
      simp only [lit_24, pk_mul, nI_add, Nat.mul_comm 24 e]
      exact s_out_lp (WF_th w) N2 t (e * 24 + k) h6 (by omega) m 0 (by omega)
theorem gIv_41_0 {β : Type} {g : av_H} (w : WF g) {v : Int32} (e : g.2.1 41 0 = v) (K : Int32 → Option β) : (av_gI g (some 41) 1 0).bind K = K v := by rw [gI_41_0 w, e]
theorem gIv_137_80 {β : Type} {g : av_H} (w : WF g) {v : Int32} (e : g.2.1 137 80 = v) (K : Int32 → Option β) : (av_gI g (some 137) 11 80).bind K = K v := by rw [gI_137_80 w, e]
def kyC (h : av_H) (m t p k : Nat) (b : Bool) : av_H := av_uI (av_uI (av_uI (av_uI (av_uI h 42 m (nI t)) 43 m (nI p)) 44 m (nI k)) 45 m (bI b)) 41 0 (nI (m + 1))
def kyR (h : av_H) (m t p k : Nat) (b : Bool) : av_H := av_uI (av_uI (av_uI (av_uI (av_uI h 200 m (nI t)) 201 m (nI p)) 202 m (nI k)) 203 m (bI b)) 137 80 (nI (m + 1))
/-- whom the keys must be with: to be taken, nobody; to come back, the one -/
def due (y : Bool) (p : Nat) : Option Nat := if y = true then none else some p
theorem due_e {m t p hr : Nat} {T P K : Nat → Nat} {B : Nat → Bool} (J : kyF h m T P K B) (hp : p < 10) (y : Bool) : oI (hol T P K B t hr m) = oI (due y p) ↔ hol T P K B t hr m = due y p :=
  oI_inj (fun q e => by have := hol_lt (c := 10) (fun j hj => (J.2.2.1 j hj).2.1) m (Nat.le_refl m) q e; omega) (fun q e => by cases y <;> simp [due] at e; omega)
theorem c_add18 (w : WF h) {m : Nat} {T P K : Nat → Nat} {B : Nat → Bool} (J : kyE h m T P K B) {t p hr : Nat} (ht : t < 6) (hp : p < 10) (hh : hr < 3000) (y : Bool) (h60 : m < 60) : bd X (d + 1) 14 18 [(0, vr (some 41)), (1, vi (nI t)), (2, vi (nI p)), (3, vi (nI hr)), (4, vi (bI y))] [] h = if hol T P K B t hr m = due y p then av_rI 1 (kyC h m t p hr y) else av_rI 0 h := by
  have hm := J.2.1
  have e0 : bd X (d + 1) 14 18 [(0, vr (some 41)), (1, vi (nI t)), (2, vi (nI p)), (3, vi (nI hr)), (4, vi (bI y))] [] h = bd X (d + 1) 14 27 [(0, vr (some 41)), (1, vi (nI t)), (2, vi (nI p)), (3, vi (nI hr)), (4, vi (bI y))] [vi (oI (due y p)), vi (oI (hol T P K B t hr m))] h := by
    rw [b_14_18, is_41 w, c_holder' w J ht hh]
    cases y <;> rfl
  rw [e0]
  by_cases q : hol T P K B t hr m = due y p
  · have q' := (due_e J.1 (t := t) (hr := hr) hp y).mpr q
    rw [if_pos q]
    simp (disch := first | ((repeat (first | with_reducible apply WF_uI | with_reducible apply WF_uL | with_reducible apply WF_th | with_reducible apply WF_fillL | with_reducible apply WF_fgt)); with_reducible assumption) | omega | (simp (disch := omega) only [uI_ne, uI_nk, uI_eq, nI_1, th_I, th_k, hm]; done) | (simp only [uI_1, uL_1, th_1, uI_R, uL_R]; with_reducible assumption)) only [b_14_27, q', ↓reduceIte, ↓gIv_41_0 (v := nI m), ↓gR_41_3, ↓ld_44, ↓st_44, ↓ln_44, ↓is_41, ↓gR_41_1, ↓ld_42, ↓st_42, ↓ln_42, ↓gR_41_2, ↓ld_43, ↓st_43, ↓ln_43, ↓gR_41_4, ↓ld_45, ↓st_45, ↓ln_45, ↓pI_41, ↓reduceIte, i10, av_cI_r, av_cL_r, av_cV_r, Option.bind_some, ↓zb_0, ↓zb_1, ↓zb_b, nar_b, nI_1, kyC]
  · have q' : ¬ oI (hol T P K B t hr m) = oI (due y p) := fun z => q ((due_e J.1 (t := t) (hr := hr) hp y).mp z)
    rw [if_neg q]
    simp only [b_14_27, q', ↓reduceIte, ↓reduceIte, i10, av_cI_r, av_cL_r, av_cV_r, Option.bind_some, ↓zb_0, ↓zb_1, ↓zb_b]
theorem s_add43 (w : WF h) {m : Nat} {T P K : Nat → Nat} {B : Nat → Bool} (J : kyF h m T P K B) {t p hr : Nat} (ht : t < 6) (hp : p < 10) (hh : hr < 3000) (y : Bool) (h60 : m < 60) : bd X (d + 1) 345 43 [(0, vr (some 137)), (1, vi (nI t)), (2, vi (nI p)), (5, vi (bI y)), (6, vi (nI hr))] [vi 1] h = if hol T P K B t hr m = due y p then av_rI 1 (kyR h m t p hr y) else av_rI 0 h := by
  have hm := J.2.1
  have e0 : bd X (d + 1) 345 43 [(0, vr (some 137)), (1, vi (nI t)), (2, vi (nI p)), (5, vi (bI y)), (6, vi (nI hr))] [vi 1] h = bd X (d + 1) 345 55 [(0, vr (some 137)), (1, vi (nI t)), (2, vi (nI p)), (5, vi (bI y)), (6, vi (nI hr))] [vi (oI (due y p)), vi (oI (hol T P K B t hr m))] h := by
    rw [b_345_43, if_neg (by decide), is_137 w, s_holder' w J ht hh]
    cases y <;> rfl
  rw [e0]
  by_cases q : hol T P K B t hr m = due y p
  · have q' := (due_e J (t := t) (hr := hr) hp y).mpr q
    rw [if_pos q]
    simp (disch := first | ((repeat (first | with_reducible apply WF_uI | with_reducible apply WF_uL | with_reducible apply WF_th | with_reducible apply WF_fillL | with_reducible apply WF_fgt)); with_reducible assumption) | omega | (simp (disch := omega) only [uI_ne, uI_nk, uI_eq, nI_1, th_I, th_k, hm]; done) | (simp only [uI_1, uL_1, th_1, uI_R, uL_R]; with_reducible assumption)) only [b_345_55, q', ↓reduceIte, ↓gIv_137_80 (v := nI m), ↓pI_137, ↓is_137, ↓gR_137_83, ↓ld_202, ↓st_202, ↓ln_202, ↓gR_137_81, ↓ld_200, ↓st_200, ↓ln_200, ↓gR_137_82, ↓ld_201, ↓st_201, ↓ln_201, ↓gR_137_84, ↓ld_203, ↓st_203, ↓ln_203, ↓reduceIte, i10, av_cI_r, av_cL_r, av_cV_r, Option.bind_some, ↓zb_0, ↓zb_1, ↓zb_b, nar_b, nI_1, kyR]
  · have q' : ¬ oI (hol T P K B t hr m) = oI (due y p) := fun z => q ((due_e J (t := t) (hr := hr) hp y).mp z)
    rw [if_neg q]
    simp only [b_345_55, q', ↓reduceIte, ↓reduceIte, i10, av_cI_r, av_cL_r, av_cV_r, Option.bind_some, ↓zb_0, ↓zb_1, ↓zb_b]
/-- a line may be laid -/
def okKy (m : Nat) (T P K : Nat → Nat) (B : Nat → Bool) (t p hr : Nat) (y : Bool) : Prop := m < 60 ∧ (m = 0 ∨ K (m - 1) ≤ hr) ∧ hol T P K B t hr m = due y p
theorem nI_prd {m : Nat} (h : 0 < m) : nI m - 1 = nI (m - 1) := by
  obtain ⟨k, rfl⟩ : ∃ k, m = k + 1 := ⟨m - 1, by omega⟩
  exact nI_pred k
theorem c_addL1 (w : WF h) {m : Nat} {T P K : Nat → Nat} {B : Nat → Bool} (J : kyE h m T P K B) {t p hr : Nat} (ht : t < 6) (hp : p < 10) (hh : hr < 3000) (y : Bool) (ok : okKy m T P K B t p hr y) : ev X (d + 2) 14 [vr (some 41), vi (nI t), vi (nI p), vi (nI hr), vi (bI y)] h = av_rI 1 (kyC h m t p hr y) := by
  obtain ⟨o1, o2, o3⟩ := ok
  rw [e_14, b_14_0, gIv_41_0 w J.2.1, if_pos (show nI m < (60 : Int32) from nI_lt (b := 60) o1 (by omega)), gIv_41_0 w J.2.1]
  have e := c_add18 (X := X) (d := d) w J ht hp hh y o1
  rw [if_pos o3] at e
  by_cases z : m = 0
  · rw [if_neg (show ¬ (0 : Int32) < nI m by rw [z]; decide)]
    exact e
  · rw [if_pos (show (0 : Int32) < nI m from nI_lt (a := 0) (by omega) (by omega)), gR_41_3 w, gIv_41_0 w J.2.1, nI_prd (by omega), ld_44 w (by omega), (J.2.2 (m - 1) (by omega)).2.2.1, if_neg (nI_nlt (by omega) (by omega))]
    exact e
theorem c_addL0 (w : WF h) {m : Nat} {T P K : Nat → Nat} {B : Nat → Bool} (J : kyE h m T P K B) {t p hr : Nat} (ht : t < 6) (hp : p < 10) (hh : hr < 3000) (y : Bool) (ok : ¬ okKy m T P K B t p hr y) : ev X (d + 2) 14 [vr (some 41), vi (nI t), vi (nI p), vi (nI hr), vi (bI y)] h = av_rI 0 h := by
  have hm := J.1.1
  rw [e_14, b_14_0, gIv_41_0 w J.2.1]
  by_cases o1 : m < 60
  · rw [if_pos (show nI m < (60 : Int32) from nI_lt (b := 60) o1 (by omega)), gIv_41_0 w J.2.1]
    have e := c_add18 (X := X) (d := d) w J ht hp hh y o1
    by_cases z : m = 0
    · rw [if_neg (fun q => ok ⟨o1, Or.inl z, q⟩)] at e
      rw [if_neg (show ¬ (0 : Int32) < nI m by rw [z]; decide)]
      exact e
    · rw [if_pos (show (0 : Int32) < nI m from nI_lt (a := 0) (by omega) (by omega)), gR_41_3 w, gIv_41_0 w J.2.1, nI_prd (by omega), ld_44 w (by omega), (J.2.2 (m - 1) (by omega)).2.2.1]
      have k3 := (J.1.2.2.1 (m - 1) (by omega)).2.2.1
      by_cases o2 : hr < K (m - 1)
      · rw [if_pos (nI_lt o2 (by omega))]
        rfl
      · rw [if_neg (fun q => ok ⟨o1, Or.inr (by omega), q⟩)] at e
        rw [if_neg (nI_nlt (by omega) (by omega))]
        exact e
  · rw [if_neg (show ¬ nI m < (60 : Int32) from nI_nlt (b := 60) (by omega) (by omega))]
    rfl
def okKg (h : av_H) (t p e k : Int32) : Bool := told h t && rg p 0 9 && rg e 0 99 && rg k 0 23
theorem key_ok (w : WF h) (J : J_tow h) (N : J_ke h) (t p e k : Int32) (y : Bool) : ∃ v h1 h2, ev X (d + 3) 164 [vr (some 0), vi t, vi p, vi e, vi k, vi (bI y)] h = av_rI v h1 ∧ ev X (d + 3) 345 [vr (some 137), vi t, vi p, vi e, vi k, vi (bI y)] h1 = av_rI v h2 ∧ WF h2 ∧ J_ke h2 ∧ off false [42, 43, 44, 45, 200, 201, 202, 203] [(41, 0), (137, 80), (137, 0)] h h2 := by
  have N0 := N
  cases ok : okKg h t p e k with
  | false =>
    refine ⟨0, h, th h, ?_, ?_, w, N0.fr (agr.uI rfl agr.rfl), agr.uI rfl agr.rfl⟩
    · rcases bdi (told h t) with q1 | q1
      · simp (disch := first | ((repeat (first | with_reducible apply WF_uI | with_reducible apply WF_uL | with_reducible apply WF_th | with_reducible apply WF_fillL | with_reducible apply WF_fgt)); with_reducible assumption) | omega | (simp only [uI_1, uL_1, th_1, uI_R, uL_R]; with_reducible assumption)) only [e_164, b_164_0, ↓is_0, ↓c_isTold', ↓c_isPerson', ↓c_isDay', ↓c_isHour', ↓reduceIte, i10, av_cI_r, av_cL_r, av_cV_r, Option.bind_some, ↓zb_0, ↓zb_1, ↓zb_b, bI_0, q1, Bool.true_eq_false]
      rcases bdi (rg p 0 9) with q4 | q4
      · simp (disch := first | ((repeat (first | with_reducible apply WF_uI | with_reducible apply WF_uL | with_reducible apply WF_th | with_reducible apply WF_fillL | with_reducible apply WF_fgt)); with_reducible assumption) | omega | (simp only [uI_1, uL_1, th_1, uI_R, uL_R]; with_reducible assumption)) only [e_164, b_164_0, ↓is_0, ↓c_isTold', ↓c_isPerson', ↓c_isDay', ↓c_isHour', ↓reduceIte, i10, av_cI_r, av_cL_r, av_cV_r, Option.bind_some, ↓zb_0, ↓zb_1, ↓zb_b, bI_0, q1, q4, Bool.true_eq_false]
      rcases bdi (rg e 0 99) with q2 | q2
      · simp (disch := first | ((repeat (first | with_reducible apply WF_uI | with_reducible apply WF_uL | with_reducible apply WF_th | with_reducible apply WF_fillL | with_reducible apply WF_fgt)); with_reducible assumption) | omega | (simp only [uI_1, uL_1, th_1, uI_R, uL_R]; with_reducible assumption)) only [e_164, b_164_0, ↓is_0, ↓c_isTold', ↓c_isPerson', ↓c_isDay', ↓c_isHour', ↓reduceIte, i10, av_cI_r, av_cL_r, av_cV_r, Option.bind_some, ↓zb_0, ↓zb_1, ↓zb_b, bI_0, q1, q4, q2, Bool.true_eq_false]
      rcases bdi (rg k 0 23) with q3 | q3
      · simp (disch := first | ((repeat (first | with_reducible apply WF_uI | with_reducible apply WF_uL | with_reducible apply WF_th | with_reducible apply WF_fillL | with_reducible apply WF_fgt)); with_reducible assumption) | omega | (simp only [uI_1, uL_1, th_1, uI_R, uL_R]; with_reducible assumption)) only [e_164, b_164_0, ↓is_0, ↓c_isTold', ↓c_isPerson', ↓c_isDay', ↓c_isHour', ↓reduceIte, i10, av_cI_r, av_cL_r, av_cV_r, Option.bind_some, ↓zb_0, ↓zb_1, ↓zb_b, bI_0, q1, q4, q2, q3, Bool.true_eq_false]
      simp [okKg, q1, q2, q3, q4] at ok
    · rcases bdi (told h t) with q1 | q1
      · simp (disch := first | ((repeat (first | with_reducible apply WF_uI | with_reducible apply WF_uL | with_reducible apply WF_th | with_reducible apply WF_fillL | with_reducible apply WF_fgt)); with_reducible assumption) | omega | (simp only [uI_1, uL_1, th_1, uI_R, uL_R]; with_reducible assumption)) only [e_345, b_345_0, ↓pI_137, th_e, ↓is_137, ↓s_isTower', ↓s_isPerson', ↓s_isDay', ↓s_isHour', ↓reduceIte, i10, av_cI_r, av_cL_r, av_cV_r, Option.bind_some, ↓zb_0, ↓zb_1, ↓zb_b, bI_0, told_th, q1, Bool.true_eq_false]
      rcases bdi (rg p 0 9) with q4 | q4
      · simp (disch := first | ((repeat (first | with_reducible apply WF_uI | with_reducible apply WF_uL | with_reducible apply WF_th | with_reducible apply WF_fillL | with_reducible apply WF_fgt)); with_reducible assumption) | omega | (simp only [uI_1, uL_1, th_1, uI_R, uL_R]; with_reducible assumption)) only [e_345, b_345_0, ↓pI_137, th_e, ↓is_137, ↓s_isTower', ↓s_isPerson', ↓s_isDay', ↓s_isHour', ↓reduceIte, i10, av_cI_r, av_cL_r, av_cV_r, Option.bind_some, ↓zb_0, ↓zb_1, ↓zb_b, bI_0, told_th, q1, q4, Bool.true_eq_false]
      rcases bdi (rg e 0 99) with q2 | q2
      · simp (disch := first | ((repeat (first | with_reducible apply WF_uI | with_reducible apply WF_uL | with_reducible apply WF_th | with_reducible apply WF_fillL | with_reducible apply WF_fgt)); with_reducible assumption) | omega | (simp only [uI_1, uL_1, th_1, uI_R, uL_R]; with_reducible assumption)) only [e_345, b_345_0, ↓pI_137, th_e, ↓is_137, ↓s_isTower', ↓s_isPerson', ↓s_isDay', ↓s_isHour', ↓reduceIte, i10, av_cI_r, av_cL_r, av_cV_r, Option.bind_some, ↓zb_0, ↓zb_1, ↓zb_b, bI_0, told_th, q1, q4, q2, Bool.true_eq_false]
      rcases bdi (rg k 0 23) with q3 | q3
      · simp (disch := first | ((repeat (first | with_reducible apply WF_uI | with_reducible apply WF_uL | with_reducible apply WF_th | with_reducible apply WF_fillL | with_reducible apply WF_fgt)); with_reducible assumption) | omega | (simp only [uI_1, uL_1, th_1, uI_R, uL_R]; with_reducible assumption)) only [e_345, b_345_0, ↓pI_137, th_e, ↓is_137, ↓s_isTower', ↓s_isPerson', ↓s_isDay', ↓s_isHour', ↓reduceIte, i10, av_cI_r, av_cL_r, av_cV_r, Option.bind_some, ↓zb_0, ↓zb_1, ↓zb_b, bI_0, told_th, q1, q4, q2, q3, Bool.true_eq_false]
      simp [okKg, q1, q2, q3, q4] at ok
  | true =>
    obtain ⟨⟨⟨q1, q4⟩, q2⟩, q3⟩ : ((told h t = true ∧ rg p 0 9 = true) ∧ rg e 0 99 = true) ∧ rg k 0 23 = true := by simpa only [okKg, Bool.and_eq_true] using ok
    obtain ⟨t, a, h6, rfl, hj, T0⟩ := told_ex J q1
    obtain ⟨p, hp, rfl⟩ := rg_nI (b := 9) (by decide) q4
    obtain ⟨e, he, rfl⟩ := rg_nI (b := 99) (by decide) q2
    obtain ⟨k, hk, rfl⟩ := rg_nI (b := 23) (by decide) q3
    obtain ⟨m, T, P, K, B, N⟩ := N
    have hm := N.1.1
    have C1 : ∀ g : av_H, ∀ v : Int32, ev X (d + 2) 14 [vr (some 41), vi (nI t), vi (nI p), vi (nI (e * 24 + k)), vi (bI y)] h = av_rI v g → (v = 0 ∨ v = 1) → ev X (d + 3) 164 [vr (some 0), vi (nI t), vi (nI p), vi (nI e), vi (nI k), vi (bI y)] h = av_rI v g := fun g v z zz => by
      simp (disch := first | ((repeat (first | with_reducible apply WF_uI | with_reducible apply WF_uL | with_reducible apply WF_th | with_reducible apply WF_fillL | with_reducible apply WF_fgt)); with_reducible assumption) | omega | (simp only [uI_1, uL_1, th_1, uI_R, uL_R]; with_reducible assumption)) only [e_164, b_164_0, ↓is_0, ↓c_isTold', ↓c_isPerson', ↓c_isDay', ↓c_isHour', ↓reduceIte, i10, av_cI_r, av_cL_r, av_cV_r, Option.bind_some, ↓zb_0, ↓zb_1, ↓zb_b, bI_0, q1, q2, q3, q4, Bool.true_eq_false, ↓gR_0_8, ↓is_41]
      simp only [lit_24, pk_mul, nI_add, z, av_cI_r, Option.bind_some]
      rcases zz with rfl | rfl <;> rfl
    have R1 : ∀ g : av_H, WF g → kyF g m T P K B → told g (nI t) = true → ev X (d + 3) 345 [vr (some 137), vi (nI t), vi (nI p), vi (nI e), vi (nI k), vi (bI y)] g = if m = 60 then av_rI 0 (th g) else if 0 < m ∧ e * 24 + k < K (m - 1) then av_rI 0 (th g) else bd X (d + 2) 345 43 [(0, vr (some 137)), (1, vi (nI t)), (2, vi (nI p)), (5, vi (bI y)), (6, vi (nI (e * 24 + k)))] [vi 1] (th g) := fun g wg Ng tg => by
      have N2 : kyF (th g) m T P K B := Ng.fr (agr.uI rfl agr.rfl)
      have hm2 := N2.2.1
      simp (disch := first | ((repeat (first | with_reducible apply WF_uI | with_reducible apply WF_uL | with_reducible apply WF_th | with_reducible apply WF_fillL | with_reducible apply WF_fgt)); with_reducible assumption) | omega | (simp (disch := omega) only [uI_ne, uI_nk, uI_eq, nI_1, th_I, th_k, hm2]; done) | (simp only [uI_1, uL_1, th_1, uI_R, uL_R]; with_reducible assumption)) only [e_345, b_345_0, ↓pI_137, th_e, ↓is_137, ↓s_isTower', ↓s_isPerson', ↓s_isDay', ↓s_isHour', ↓reduceIte, i10, av_cI_r, av_cL_r, av_cV_r, Option.bind_some, ↓zb_0, ↓zb_1, ↓zb_b, bI_0, told_th, tg, q2, q3, q4, Bool.true_eq_false, ↓gIv_137_80 (v := nI m), ↓gR_137_83]
      simp only [lit_24, lit_60, pk_mul, nI_add, Nat.mul_comm 24 e]
      by_cases z : m = 60
      · rw [if_pos (congrArg nI z), if_pos z]
      · rw [if_neg (fun q => z ((nI_eq (by omega) (by omega)).mp q)), if_neg z]
        by_cases z0 : m = 0
        · rw [if_pos (show nI m = 0 by rw [z0]; rfl), if_neg (by omega), b_345_40]
        · rw [if_neg (nI_ne0 (by omega) (by omega)), nI_prd (by omega), ld_202 (WF_th wg) (by omega), (N2.2.2.1 (m - 1) (by omega)).2.2.2.2.2.1]
          have k3 := (N.1.2.2.1 (m - 1) (by omega)).2.2.1
          by_cases o2 : e * 24 + k < K (m - 1)
          · rw [if_pos (nI_lt o2 (by omega)), if_pos ⟨by omega, o2⟩, b_345_43, if_pos rfl]
            rfl
          · rw [if_neg (nI_nlt (by omega) (by omega)), if_neg (fun q => o2 q.2), b_345_40]
    by_cases kk : okKy m T P K B t p (e * 24 + k) y
    · obtain ⟨o1, o2, o3⟩ := kk
      have F1 : kyF (kyC h m t p (e * 24 + k) y) m T P K B := N.1.fr (agr.uI rfl (agr.uI rfl (agr.uI rfl (agr.uI rfl (agr.uI rfl agr.rfl)))))
      have wC : WF (kyC h m t p (e * 24 + k) y) := WF_uI (WF_uI (WF_uI (WF_uI (WF_uI w))))
      have tC : told (kyC h m t p (e * 24 + k) y) (nI t) = true := by
        rw [← q1]
        simp (disch := omega) only [told, kyC, uI_ne]
      refine ⟨1, _, kyR (th (kyC h m t p (e * 24 + k) y)) m t p (e * 24 + k) y, C1 _ 1 (c_addL1 w N h6 (by omega) (by omega) y ⟨o1, o2, o3⟩) (Or.inr rfl), ?_, WF_uI (WF_uI (WF_uI (WF_uI (WF_uI (WF_th wC))))), ?_, ?_⟩
      · rw [R1 _ wC F1 tC, if_neg (by omega), if_neg (by omega)]
        refine (s_add43 (d := d + 1) (WF_th wC) (F1.fr (agr.uI rfl agr.rfl)) h6 (by omega) (by omega) y o1).trans ?_
        rw [if_pos o3]
      · obtain ⟨⟨n1, n2, n3, n4, n5⟩, n6, n7⟩ := N
        have le : ∀ j, j < m → K j ≤ e * 24 + k := fun j hj => by
          rcases o2 with z | z
          · omega
          · by_cases e1 : j = m - 1
            · subst e1
              exact z
            · exact Nat.le_trans (n4 j (m - 1) (by omega) (by omega)) z
        refine ⟨m + 1, fun i => if i = m then t else T i, fun i => if i = m then p else P i, fun i => if i = m then e * 24 + k else K i, fun i => if i = m then y else B i, ⟨by omega, ?_, fun i hi => ?_, fun i j hij hj => ?_, fun i hi => ?_⟩, ?_, fun i hi => ?_⟩
        · simp (disch := omega) only [kyR, uI_eq]
        · by_cases z : i = m
          · subst z
            simp (disch := omega) only [kyR, uI_ne, uI_eq, if_true, true_and, and_true]
            omega
          · simp (disch := omega) only [kyR, th, kyC, uI_ne, uI_nk, if_neg z]
            exact n3 i (by omega)
        · have hi : ¬ i = m := by omega
          by_cases z : j = m
          · simp only [if_neg hi, if_pos z]
            exact le i (by omega)
          · simp only [if_neg hi, if_neg z]
            exact n4 i j hij (by omega)
        · rw [hol_cong (T' := T) (P' := P) (K' := K) (B' := B) i (fun j hj => by simp only [if_neg (show ¬ j = m by omega), and_self])]
          by_cases z : i = m
          · subst z
            simp only [if_true]
            rw [hol_hr (b := e * 24 + k) i (fun j hj => ⟨by have := (n3 j hj).2.2.1; omega, le j hj⟩), o3]
            rfl
          · simp only [if_neg z]
            exact n5 i (by omega)
        · simp (disch := omega) only [kyR, th, kyC, uI_ne, uI_eq]
        · by_cases z : i = m
          · subst z
            simp (disch := omega) only [kyR, th, kyC, uI_ne, uI_eq, if_true, and_self]
          · simp (disch := omega) only [kyR, th, kyC, uI_ne, uI_nk, if_neg z]
            exact n7 i (by omega)
      · unfold kyR th kyC off
        repeat (first | refine agr.uI rfl ?_ | exact agr.rfl)
    · refine ⟨0, h, th h, C1 h 0 (c_addL0 w N h6 (by omega) (by omega) y kk) (Or.inl rfl), ?_, w, N0.fr (agr.uI rfl agr.rfl), agr.uI rfl agr.rfl⟩
      rw [R1 h w N.1 q1]
      by_cases z : m = 60
      · rw [if_pos z]
      · rw [if_neg z]
        by_cases z2 : 0 < m ∧ e * 24 + k < K (m - 1)
        · rw [if_pos z2]
        · rw [if_neg z2]
          refine (s_add43 (d := d + 1) (WF_th w) (N.1.fr (agr.uI rfl agr.rfl)) h6 (by omega) (by omega) y (by omega)).trans ?_
          rw [if_neg (fun q => kk ⟨by omega, by omega, q⟩)]
end
