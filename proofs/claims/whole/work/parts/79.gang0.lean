/-! who is aloft when a drop is asked for -/
/-- drop i is under way in hours k .. k + H - 1 of day e -/
def ovB (D : Nat → Nat → Nat) (e k H i : Nat) : Bool := decide (D i 4 = e) && (decide (D i 5 < k + H) && decide (k < D i 5 + D i 6))
def gaB (D : Nat → Nat → Nat) (e k H : Nat) (a b : Int32) (i : Nat) : Bool := ovB D e k H i && (prs (D i) a || prs (D i) b)
def crB (D : Nat → Nat → Nat) (e k H t i : Nat) : Bool := ovB D e k H i && decide (D i 0 = t)
section
variable {X : av_X} {d : Nat} {h : av_H}
theorem c_ovl (w : WF h) {i j M N e k H : Nat} {D : Nat → Nat → Nat} (hi : i < 60) (hj : j < 60) (P : dpc h i (D i) M) (B : dpb (D i) M N) (e4 : h.2.1 (77 + j) 4 = nI e) (e5 : h.2.1 (77 + j) 5 = nI k) (e6 : h.2.1 (77 + j) 6 = nI H) (he : e < 100) (hk : k < 24) (hH : H < 100) : ev X (d + 1) 2 [vr (some (77 + i)), vr (some (77 + j))] h = av_rI (bI (ovB D e k H i)) h := by
  have hD := P.1
  obtain ⟨b0, b1, b2, b3, b4, b5, b6, -⟩ := B
  rw [e_2, b_2_0, dr_g w hi hD (by decide), dr_v w hj e4, ovB]
  by_cases q1 : D i 4 = e
  · rw [if_pos (congrArg nI q1), dr_g w hi hD (by decide), dr_v w hj e5, dr_v w hj e6, nI_add, decide_eq_true q1, Bool.true_and]
    by_cases q2 : D i 5 < k + H
    · rw [if_pos (nI_lt q2 (by omega)), dr_v w hj e5, dr_g w hi hD (by decide), dr_g w hi hD (by decide), nI_add, decide_eq_true q2, Bool.true_and]
      by_cases q3 : k < D i 5 + D i 6
      · rw [if_pos (nI_lt q3 (by omega)), decide_eq_true q3]
        rfl
      · rw [if_neg (nI_nlt (by omega) (by omega)), decide_eq_false q3]
        rfl
    · rw [if_neg (nI_nlt (by omega) (by omega)), decide_eq_false q2]
      rfl
  · rw [if_neg (fun y => q1 ((nI_eq (by omega) (by omega)).mp y)), decide_eq_false q1]
    rfl
theorem ga_lp (w : WF h) {m e k H : Nat} {a b : Int32} {D : Nat → Nat → Nat} {M N : Nat → Nat} (B : DB m D M N) (C : DC h m D M) (hm : m < 60) (e4 : h.2.1 (77 + m) 4 = nI e) (e5 : h.2.1 (77 + m) 5 = nI k) (e6 : h.2.1 (77 + m) 6 = nI H) (e8 : h.2.1 (77 + m) 8 = a) (e9 : h.2.1 (77 + m) 9 = b) (he : e < 100) (hk : k < 24) (hH : H < 100) : ∀ n i, i + n = m → bd X (d + 1) 208 2 [(0, vr (some 0)), (1, vr (some (77 + m))), (2, vi (nI i))] [] h = av_rI (bI (anyN n i (gaB D e k H a b))) h
  | 0, i, hi => by
    rw [b_208_2, gIv_0_17 w C.1, if_neg (nI_nlt (by omega) (by omega))]
    rfl
  | n + 1, i, hi => by
    have ih := ga_lp w B C hm e4 e5 e6 e8 e9 he hk hH n (i + 1) (by omega)
    have P := C.2 i (by omega)
    rw [b_208_2, gIv_0_17 w C.1, if_pos (nI_lt (by omega) (by omega)), gR_0_13 w, dr_l w (by omega), dr_is w (by omega), c_ovl w (by omega) hm P (B.2.1 i (by omega)) e4 e5 e6 he hk hH, av_cI_r, Option.bind_some, nI_1, anyN, gaB]
    cases ovB D e k H i with
    | false =>
      rw [if_pos (show bI false = 0 from rfl), Bool.false_and, Bool.false_or]
      exact ih
    | true =>
      rw [if_neg (show ¬ bI true = 0 by decide), gR_0_13 w, dr_l w (by omega), dr_v w hm e8, dr_is w (by omega), c_hasP' w (by omega) P, Bool.true_and]
      cases prs (D i) a with
      | true =>
        rw [if_neg (show ¬ bI true = 0 by decide), Bool.true_or, Bool.true_or]
        rfl
      | false =>
        rw [if_pos (show bI false = 0 from rfl), gR_0_13 w, dr_l w (by omega), dr_v w hm e9, dr_is w (by omega), c_hasP' w (by omega) P, Bool.false_or]
        cases prs (D i) b with
        | true =>
          rw [if_neg (show ¬ bI true = 0 by decide), Bool.true_or]
          rfl
        | false =>
          rw [if_pos (show bI false = 0 from rfl), Bool.false_or]
          exact ih
theorem cr_lp (w : WF h) {m e k H t : Nat} {D : Nat → Nat → Nat} {M N : Nat → Nat} (B : DB m D M N) (C : DC h m D M) (hm : m < 60) (e4 : h.2.1 (77 + m) 4 = nI e) (e5 : h.2.1 (77 + m) 5 = nI k) (e6 : h.2.1 (77 + m) 6 = nI H) (e0 : h.2.1 (77 + m) 0 = nI t) (t6 : t < 6) (he : e < 100) (hk : k < 24) (hH : H < 100) : ∀ n i, i + n = m → bd X (d + 1) 209 2 [(0, vr (some 0)), (1, vr (some (77 + m))), (2, vi (nI i))] [] h = av_rI (bI (anyN n i (crB D e k H t))) h
  | 0, i, hi => by
    rw [b_209_2, gIv_0_17 w C.1, if_neg (nI_nlt (by omega) (by omega))]
    rfl
  | n + 1, i, hi => by
    have ih := cr_lp w B C hm e4 e5 e6 e0 t6 he hk hH n (i + 1) (by omega)
    have P := C.2 i (by omega)
    have b0 := (B.2.1 i (by omega)).1
    rw [b_209_2, gIv_0_17 w C.1, if_pos (nI_lt (by omega) (by omega)), gR_0_13 w, dr_l w (by omega), dr_is w (by omega), c_ovl w (by omega) hm P (B.2.1 i (by omega)) e4 e5 e6 he hk hH, av_cI_r, Option.bind_some, nI_1, anyN, crB]
    cases ovB D e k H i with
    | false =>
      rw [if_pos (show bI false = 0 from rfl), Bool.false_and, Bool.false_or]
      exact ih
    | true =>
      rw [if_neg (show ¬ bI true = 0 by decide), gR_0_13 w, dr_l w (by omega), dr_g w (by omega) P.1 (by decide), dr_v w hm e0, Bool.true_and]
      by_cases q : D i 0 = t
      · rw [if_pos (congrArg nI q), decide_eq_true q, Bool.true_or]
        rfl
      · rw [if_neg (fun y => q ((nI_eq (by omega) (by omega)).mp y)), decide_eq_false q, Bool.false_or]
        exact ih
/-- the reference's: people, or the cradle -/
def meB (D : Nat → Nat → Nat) (e k H : Nat) (a b t : Int32) (i : Nat) : Bool := ovB D e k H i && (if a = -1 then decide (nI (D i 0) = t) else (prs (D i) a || prs (D i) b))
theorem me_lp (w : WF h) {m e k H : Nat} {a b t : Int32} {D : Nat → Nat → Nat} {M N : Nat → Nat} (B : DB m D M N) (R : DR h m D N) (he : e < 100) (hk : k < 24) (hH : H < 100) : ∀ n i (v : Bool), i + n = m → bd X (d + 1) 295 4 [(0, vr (some 137)), (1, vi (nI e)), (2, vi (nI k)), (3, vi (nI H)), (4, vi a), (5, vi b), (6, vi t), (7, vi (bI v)), (8, vi (nI i))] [] h = av_rI (bI (v || anyN n i (meB D e k H a b t))) h
  | 0, i, v, hi => by
    have h60 := B.1
    rw [b_295_4, gIv_137_45 w R.1, if_neg (nI_nlt (by omega) (by omega)), zb_b, anyN, Bool.or_false]
  | n + 1, i, v, hi => by
    have h60 := B.1
    have ih := me_lp w (a := a) (b := b) (t := t) B R he hk hH n (i + 1)
    obtain ⟨p0, p1, p2, p4, p5, p6, p7, p8, p9, -⟩ := R.2 i (by omega)
    obtain ⟨b0, b1, b2, b3, b4, b5, b6, -⟩ := B.2.1 i (by omega)
    have k64 : ∀ s0 : Bool, s0 = (prs (D i) a || prs (D i) b) → ∀ o : Bool, bd X (d + 1) 295 64 [(0, vr (some 137)), (1, vi (nI e)), (2, vi (nI k)), (3, vi (nI H)), (4, vi a), (5, vi b), (6, vi t), (7, vi (bI v)), (8, vi (nI i)), (9, vi (bI o))] [vi (bI s0)] h = av_rI (bI (v || ((o && (if a = -1 then decide (nI (D i 0) = t) else (prs (D i) a || prs (D i) b))) || anyN n (i + 1) (meB D e k H a b t)))) h := fun s0 es o => by
      rw [b_295_64, nI_1]
      cases v with
      | true =>
        have z := ih true (by omega)
        rw [Bool.true_or] at z ⊢
        rw [if_neg (show ¬ bI true = 0 by decide)]
        exact z
      | false =>
        rw [if_pos (show bI false = 0 from rfl), Bool.false_or]
        cases o with
        | false =>
          rw [if_pos (show bI false = 0 from rfl), Bool.false_and]
          exact ih false (by omega)
        | true =>
          rw [if_neg (show ¬ bI true = 0 by decide), Bool.true_and]
          by_cases y : a = -1
          · rw [if_pos y, if_pos y, gR_137_46 w, ld_168 w (by omega), p0]
            by_cases u : nI (D i 0) = t
            · rw [if_pos u, decide_eq_true u]
              exact ih true (by omega)
            · rw [if_neg u, decide_eq_false u]
              exact ih false (by omega)
          · rw [if_neg y, if_neg y, ← es]
            cases s0 with
            | false =>
              rw [if_pos (show bI false = 0 from rfl)]
              exact ih false (by omega)
            | true =>
              rw [if_neg (show ¬ bI true = 0 by decide)]
              exact ih true (by omega)
    have k36 : ∀ o : Bool, bd X (d + 1) 295 36 [(0, vr (some 137)), (1, vi (nI e)), (2, vi (nI k)), (3, vi (nI H)), (4, vi a), (5, vi b), (6, vi t), (7, vi (bI v)), (8, vi (nI i))] [vi (bI o)] h = av_rI (bI (v || ((o && (if a = -1 then decide (nI (D i 0) = t) else (prs (D i) a || prs (D i) b))) || anyN n (i + 1) (meB D e k H a b t)))) h := fun o => by
      have z1 := fun es => k64 true es o
      have z0 := fun es => k64 false es o
      rw [b_295_36, gR_137_53 w, ld_175 w (by omega), p8]
      unfold prs at z1 z0 ⊢
      by_cases y1 : nI (D i 8) = a
      · rw [if_pos y1, b_295_61]
        exact z1 (by rw [decide_eq_true y1]; rfl)
      · rw [if_neg y1, gR_137_54 w, ld_176 w (by omega), p9]
        by_cases y2 : nI (D i 9) = a
        · rw [if_pos y2, b_295_61]
          exact z1 (by rw [decide_eq_true y2, Bool.or_true]; rfl)
        · rw [if_neg y2, gR_137_53 w, ld_175 w (by omega), p8]
          by_cases y3 : nI (D i 8) = b
          · rw [if_pos y3, b_295_61]
            exact z1 (by rw [decide_eq_true y3, Bool.true_or, Bool.or_true])
          · rw [if_neg y3, gR_137_54 w, ld_176 w (by omega), p9]
            by_cases y4 : nI (D i 9) = b
            · rw [if_pos y4, b_295_61]
              exact z1 (by rw [decide_eq_true y4, Bool.or_true, Bool.or_true])
            · rw [if_neg y4]
              exact z0 (by rw [decide_eq_false y1, decide_eq_false y2, decide_eq_false y3, decide_eq_false y4]; rfl)
    rw [b_295_4, gIv_137_45 w R.1, if_pos (nI_lt (by omega) (by omega)), gR_137_49 w, ld_171 w (by omega), p4, anyN, meB, ovB]
    by_cases q1 : D i 4 = e
    · rw [if_pos (congrArg nI q1), gR_137_50 w, ld_172 w (by omega), p5, nI_add, decide_eq_true q1, Bool.true_and]
      by_cases q2 : D i 5 < k + H
      · rw [if_pos (nI_lt q2 (by omega)), gR_137_50 w, ld_172 w (by omega), p5, gR_137_51 w, ld_173 w (by omega), p6, nI_add, decide_eq_true q2, Bool.true_and]
        by_cases q3 : k < D i 5 + D i 6
        · rw [if_pos (nI_lt q3 (by omega)), decide_eq_true q3]
          exact k36 true
        · rw [if_neg (nI_nlt (by omega) (by omega)), decide_eq_false q3, b_295_35]
          exact k36 false
      · rw [if_neg (nI_nlt (by omega) (by omega)), decide_eq_false q2, b_295_35]
        exact k36 false
    · rw [if_neg (fun y => q1 ((nI_eq (by omega) (by omega)).mp y)), decide_eq_false q1, b_295_35]
      exact k36 false
theorem c_gang (w : WF h) {m e k H : Nat} {a b : Int32} {D : Nat → Nat → Nat} {M N : Nat → Nat} (B : DB m D M N) (C : DC h m D M) (hm : m < 60) (e4 : h.2.1 (77 + m) 4 = nI e) (e5 : h.2.1 (77 + m) 5 = nI k) (e6 : h.2.1 (77 + m) 6 = nI H) (e8 : h.2.1 (77 + m) 8 = a) (e9 : h.2.1 (77 + m) 9 = b) (he : e < 100) (hk : k < 24) (hH : H < 100) : ev X (d + 2) 208 [vr (some 0), vr (some (77 + m))] h = av_rI (bI (anyN m 0 (gaB D e k H a b))) h := by
  rw [e_208, b_208_0]
  exact ga_lp w B C hm e4 e5 e6 e8 e9 he hk hH m 0 (by omega)
theorem c_crad (w : WF h) {m e k H t : Nat} {D : Nat → Nat → Nat} {M N : Nat → Nat} (B : DB m D M N) (C : DC h m D M) (hm : m < 60) (e4 : h.2.1 (77 + m) 4 = nI e) (e5 : h.2.1 (77 + m) 5 = nI k) (e6 : h.2.1 (77 + m) 6 = nI H) (e0 : h.2.1 (77 + m) 0 = nI t) (t6 : t < 6) (he : e < 100) (hk : k < 24) (hH : H < 100) : ev X (d + 2) 209 [vr (some 0), vr (some (77 + m))] h = av_rI (bI (anyN m 0 (crB D e k H t))) h := by
  rw [e_209, b_209_0]
  exact cr_lp w B C hm e4 e5 e6 e0 t6 he hk hH m 0 (by omega)
theorem s_gang (w : WF h) {m e k H a : Nat} {b t : Int32} {D : Nat → Nat → Nat} {M N : Nat → Nat} (B : DB m D M N) (R : DR h m D N) (ha : a < 10) (he : e < 100) (hk : k < 24) (hH : H < 100) : ev X (d + 2) 295 [vr (some 137), vi (nI e), vi (nI k), vi (nI H), vi (nI a), vi b, vi t] h = av_rI (bI (anyN m 0 (gaB D e k H (nI a) b))) h := by
  have z := me_lp (X := X) (d := d) w (a := nI a) (b := b) (t := t) B R he hk hH m 0 false (by omega)
  have n1 : ¬ nI a = -1 := fun y => by
    have := congrArg Int32.toInt y
    rw [toI_nI (by omega), show (-1 : Int32).toInt = -1 from rfl] at this
    omega
  rw [Bool.false_or, anyN_cg (Q := gaB D e k H (nI a) b) _ _ (fun i _ _ => by rw [meB, if_neg n1, gaB])] at z
  rw [e_295, b_295_0]
  exact z
theorem s_crad (w : WF h) {m e k H t : Nat} {b : Int32} {D : Nat → Nat → Nat} {M N : Nat → Nat} (B : DB m D M N) (R : DR h m D N) (t6 : t < 6) (he : e < 100) (hk : k < 24) (hH : H < 100) : ev X (d + 2) 295 [vr (some 137), vi (nI e), vi (nI k), vi (nI H), vi (-1), vi b, vi (nI t)] h = av_rI (bI (anyN m 0 (crB D e k H t))) h := by
  have h60 := B.1
  have z := me_lp (X := X) (d := d) w (a := -1) (b := b) (t := nI t) B R he hk hH m 0 false (by omega)
  rw [Bool.false_or, anyN_cg (Q := crB D e k H t) _ _ (fun i _ hi => by
    have b0 := (B.2.1 i (by omega)).1
    rw [meB, if_pos rfl, crB]
    congr 1
    apply decide_eq_decide.mpr
    exact nI_eq (by omega) (by omega))] at z
  rw [e_295, b_295_0]
  exact z
end
