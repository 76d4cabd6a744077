/-! which drops may be asked for -/
def askB (h : av_H) (t s x e k a b : Int32) : Bool := isStp h t s x && (rg e 0 99 && (rg k 0 23 && (rg a 0 9 && rg b 0 9)))
/-- the day is not before the last drop's -/
def dayB (m : Nat) (D : Nat → Nat → Nat) (e : Int32) : Bool := decide (m < 60) && (decide (m = 0) || !decide (e < nI (D (m - 1) 4)))
section
variable {X : av_X} {d : Nat} {h : av_H}
theorem c_askable (w : WF h) (J : J_tv h) (t s x e k a b : Int32) : ev X (d + 5) 195 [vr (some 0), vi t, vi s, vi x, vi e, vi k, vi a, vi b] h = av_rI (bI (askB h t s x e k a b)) h := by
  rw [e_195, b_195_0, is_0 w, c_isStopV' w J, askB]
  cases isStp h t s x with
  | false =>
    rw [if_pos (show bI false = 0 from rfl)]
    rfl
  | true =>
    rw [if_neg (show ¬ bI true = 0 by decide), c_isDay', Bool.true_and]
    cases rg e 0 99 with
    | false =>
      rw [if_pos (show bI false = 0 from rfl)]
      rfl
    | true =>
      rw [if_neg (show ¬ bI true = 0 by decide), c_isHour', Bool.true_and]
      cases rg k 0 23 with
      | false =>
        rw [if_pos (show bI false = 0 from rfl)]
        rfl
      | true =>
        rw [if_neg (show ¬ bI true = 0 by decide), c_isPerson', Bool.true_and]
        cases rg a 0 9 with
        | false =>
          rw [if_pos (show bI false = 0 from rfl)]
          rfl
        | true =>
          rw [if_neg (show ¬ bI true = 0 by decide), c_isPerson', Bool.true_and]
          cases rg b 0 9 with
          | false =>
            rw [if_pos (show bI false = 0 from rfl)]
            rfl
          | true =>
            rw [if_neg (show ¬ bI true = 0 by decide)]
            rfl
theorem s_areIn (w : WF h) (J : R_tow h) {m : Nat} {D : Nat → Nat → Nat} {M N : Nat → Nat} (B : DB m D M N) (R : DR h m D N) (t s x e k a b : Int32) : ev X (d + 4) 296 [vr (some 137), vi t, vi s, vi x, vi e, vi k, vi a, vi b] h = av_rI (bI (askB h t s x e k a b && dayB m D e)) h := by
  have h60 := B.1
  have k0 : bd X (d + 3) 296 20 [(0, vr (some 137)), (4, vi e)] [] h = av_rI (bI false) h := by
    rw [b_296_20, b_296_21, if_pos rfl]
    rfl
  rw [e_296, b_296_0, is_137 w, s_isStop' w J, askB]
  cases isStp h t s x with
  | false =>
    rw [if_pos (show bI false = 0 from rfl), Bool.false_and, Bool.false_and]
    exact k0
  | true =>
    rw [if_neg (show ¬ bI true = 0 by decide), s_isDay', Bool.true_and]
    cases rg e 0 99 with
    | false =>
      rw [if_pos (show bI false = 0 from rfl), Bool.false_and, Bool.false_and]
      exact k0
    | true =>
      rw [if_neg (show ¬ bI true = 0 by decide), s_isHour', Bool.true_and]
      cases rg k 0 23 with
      | false =>
        rw [if_pos (show bI false = 0 from rfl), Bool.false_and, Bool.false_and]
        exact k0
      | true =>
        rw [if_neg (show ¬ bI true = 0 by decide), s_isPerson', Bool.true_and]
        cases rg a 0 9 with
        | false =>
          rw [if_pos (show bI false = 0 from rfl), Bool.false_and, Bool.false_and]
          exact k0
        | true =>
          rw [if_neg (show ¬ bI true = 0 by decide), s_isPerson', Bool.true_and]
          cases rg b 0 9 with
          | false =>
            rw [if_pos (show bI false = 0 from rfl), Bool.false_and]
            exact k0
          | true =>
            rw [if_neg (show ¬ bI true = 0 by decide), b_296_21, if_neg (by decide), gIv_137_45 w R.1, Bool.true_and, dayB]
            by_cases q1 : m < 60
            · rw [if_pos (show nI m < (60 : Int32) from nI_lt (b := 60) q1 (by omega)), gIv_137_45 w R.1, decide_eq_true q1, Bool.true_and]
              by_cases q2 : m = 0
              · rw [if_pos (by rw [q2]; rfl), decide_eq_true q2]
                rfl
              · obtain ⟨p0, p1, p2, p4, -⟩ := R.2 (m - 1) (by omega)
                rw [if_neg (nI_ne0 (by omega) (by omega)), gR_137_49 w, gIv_137_45 w R.1, nI_prd (by omega), ld_171 w (by omega), p4, decide_eq_false q2, Bool.false_or]
                by_cases q3 : e < nI (D (m - 1) 4)
                · rw [if_pos q3, decide_eq_true q3]
                  rfl
                · rw [if_neg q3, decide_eq_false q3]
                  rfl
            · rw [if_neg (show ¬ nI m < (60 : Int32) from nI_nlt (b := 60) (by omega) (by omega)), decide_eq_false q1]
              rfl
/-- the class's guards, then the asking itself -/
theorem ask_g (w : WF h) (J : J_tv h) {m : Nat} {D : Nat → Nat → Nat} {M N : Nat → Nat} (B : DB m D M N) (C : DC h m D M) (t s x e k a b : Int32) : ev X (d + 6) 203 [vr (some 0), vi t, vi s, vi x, vi e, vi k, vi a, vi b] h = if (askB h t s x e k a b && dayB m D e) = true then bd X (d + 5) 203 31 [(0, vr (some 0)), (1, vi t), (2, vi s), (3, vi x), (4, vi e), (5, vi k), (6, vi a), (7, vi b)] [] h else av_rI (-1) h := by
  have h60 := B.1
  rw [e_203, b_203_0, is_0 w, c_askable w J, av_cI_r, Option.bind_some]
  cases askB h t s x e k a b with
  | false => rw [if_pos (show bI false = 0 from rfl), Bool.false_and, if_neg (show ¬ false = true by decide)]
  | true =>
    rw [if_neg (show ¬ bI true = 0 by decide), gIv_0_17 w C.1, Bool.true_and, dayB]
    by_cases q1 : m < 60
    · rw [if_pos (show nI m < (60 : Int32) from nI_lt (b := 60) q1 (by omega)), gIv_0_17 w C.1, decide_eq_true q1, Bool.true_and]
      by_cases q2 : m = 0
      · rw [if_neg (by rw [q2]; decide), decide_eq_true q2, Bool.true_or, if_pos rfl]
      · rw [if_pos (show (0 : Int32) < nI m from nI_lt (a := 0) (by omega) (by omega)), gR_0_13 w, gIv_0_17 w C.1, nI_prd (by omega), dr_l w (by omega), dr_g w (by omega) (C.2 (m - 1) (by omega)).1 (by decide), decide_eq_false q2, Bool.false_or]
        by_cases q3 : e < nI (D (m - 1) 4)
        · rw [if_pos q3, decide_eq_true q3, Bool.not_true, if_neg (show ¬ false = true by decide)]
        · rw [if_neg q3, decide_eq_false q3, Bool.not_false, if_pos rfl]
    · rw [if_neg (show ¬ nI m < (60 : Int32) from nI_nlt (b := 60) (by omega) (by omega)), decide_eq_false q1, Bool.false_and, if_neg (show ¬ false = true by decide)]
end
