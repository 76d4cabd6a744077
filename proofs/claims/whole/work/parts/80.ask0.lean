/-! drills, leave, keys, when a drop is asked for -/
def drB (x : Int32) (e dd : Nat) : Bool := !decide (x = -1) && rg x (nI e - nI dd).toInt (nI e).toInt
/-- somebody of the two holds the key -/
def kyB (a b : Int32) : Option Nat → Bool
  | none => false
  | some p => decide (a = nI p) || decide (b = nI p)
section
variable {X : av_X} {d : Nat} {h : av_H}
theorem gR_f {β : Type} {u : Ru} (o : u.ok) (w : WF h) (j : Nat) (K : Int32 → Option β) : (av_gI h (some u.R) 6 j).bind K = K (h.2.1 u.R j) := by
  rcases o.1 with e | e <;> rw [e]
  · exact bS (k_gI (w.k (a := 67) rfl) j) K
  · exact bS (k_gI (w.k (a := 72) rfl) j) K
theorem c_drl {u : Ru} (o : u.ok) (w : WF h) (C : u.C h) (x : Int32) (e : Nat) : ev X (d + 2) 210 [vr (some 0), vi x, vi (nI e)] h = av_rI (bI (drB x e u.dd)) h := by
  rw [e_210, b_210_0, drB]
  by_cases q : x = -1
  · rw [if_pos q, decide_eq_true q]
    rfl
  · rw [if_neg q, g015 w C, gR_f o w, C.2.2.2.2.1, c_within', decide_eq_false q]
    cases rg x (nI e - nI u.dd).toInt (nI e).toInt <;> rfl
theorem s_drl {u : Ru} (w : WF h) (Q : u.Q h) {p e : Nat} {x : Int32} (hp : p < 10) (ex : h.2.1 160 p = x) (xx : x = -1 ∨ ∃ y, y < 100 ∧ x = nI y) : ev X (d + 1) 294 [vr (some 137), vi (nI p), vi (nI e)] h = av_rI (bI (drB x e u.dd)) h := by
  rw [e_294, b_294_0, gR_137_29 w, ld_160 w hp, ex, drB]
  rcases xx with rfl | ⟨y, hy, rfl⟩
  · rw [if_pos (by decide)]
    rfl
  · have n1 : ¬ nI y = -1 := fun z => by
      have := congrArg Int32.toInt z
      rw [toI_nI (by omega), show (-1 : Int32).toInt = -1 from rfl] at this
      omega
    rw [if_neg (nI_pos (by omega)), gR_137_29 w, ld_160 w hp, ex, gI_137_38 w, Q.2.2.2.1, decide_eq_false n1, Bool.not_false, Bool.true_and, rg]
    by_cases q1 : nI y < nI e - nI u.dd
    · rw [if_pos q1, decide_eq_false (by rw [i_lt] at q1; omega)]
      rfl
    · rw [if_neg q1, gR_137_29 w, ld_160 w hp, ex]
      by_cases q2 : nI e < nI y
      · rw [if_pos q2, decide_eq_false (by rw [i_lt] at q2; omega)]
        rfl
      · rw [if_neg q2, decide_eq_true (by rw [i_lt] at q1 q2; omega)]
        rfl
theorem onl_lp {h0 : av_H} (T : tC h0 h) {ml : Nat} (Jl : lvJ h0 ml) {i : Nat} {D : Nat → Nat} (hi : i < 60) (P : dpk h0 i D) (b5 : D 5 + D 6 ≤ 24) : ∀ n j, j + n = D 6 → bd X (d + 3) 211 2 [(0, vr (some 0)), (1, vr (some (77 + i))), (2, vi (nI j))] [] h = av_rI (bI (!anyN n (D 5 + j) (fun k => !lvB h0 ml (nI (D 0)) (nI (D 4)) (nI k)))) h
  | 0, j, hj => by
    rw [b_211_2, dk_g T.1 hi (P.t hi T) (by decide), if_neg (nI_nlt (by omega) (by omega))]
    rfl
  | n + 1, j, hj => by
    have w := T.1
    have P' := P.t hi T
    have ih := onl_lp T Jl hi P b5 n (j + 1) (by omega)
    rw [b_211_2, dk_g w hi P' (by decide), if_pos (nI_lt (by omega) (by omega)), gR_0_3 w, dk_g w hi P' (by decide), dk_g w hi P' (by decide), dk_g w hi P' (by decide), is_9 w, nI_add, c_lv T Jl, av_cI_r, Option.bind_some, nI_1, anyN]
    cases lvB h0 ml (nI (D 0)) (nI (D 4)) (nI (D 5 + j)) with
    | false =>
      rw [if_pos (show bI false = 0 from rfl), Bool.not_false, Bool.true_or]
      rfl
    | true =>
      rw [if_neg (show ¬ bI true = 0 by decide), Bool.not_true, Bool.false_or]
      exact ih
theorem c_onl {h0 : av_H} (T : tC h0 h) {ml : Nat} (Jl : lvJ h0 ml) {i : Nat} {D : Nat → Nat} (hi : i < 60) (P : dpk h0 i D) (b5 : D 5 + D 6 ≤ 24) : ev X (d + 4) 211 [vr (some 0), vr (some (77 + i))] h = av_rI (bI (!anyN (D 6) (D 5) (fun k => !lvB h0 ml (nI (D 0)) (nI (D 4)) (nI k)))) h := by
  rw [e_211, b_211_0]
  exact onl_lp T Jl hi P b5 (D 6) 0 (by omega)
theorem key_lp (w : WF h) {mk : Nat} {T P K : Nat → Nat} {B : Nat → Bool} (J : kyE h mk T P K B) {i : Nat} {D : Nat → Nat} {a b : Int32} (hi : i < 60) (Pk : dpk h i D) (e8 : h.2.1 (77 + i) 8 = a) (e9 : h.2.1 (77 + i) 9 = b) (b0 : D 0 < 6) (b4 : D 4 < 100) (b5 : D 5 + D 6 ≤ 24) (hol_n : ∀ hr p, hol T P K B (D 0) hr mk = some p → p < 10) : ∀ n j, j + n = D 6 → bd X (d + 1) 214 2 [(0, vr (some 0)), (1, vr (some (77 + i))), (2, vi (nI j))] [] h = av_rI (bI (!anyN n (D 5 + j) (fun k => !kyB a b (hol T P K B (D 0) (D 4 * 24 + k) mk)))) h
  | 0, j, hj => by
    rw [b_214_2, dk_g w hi Pk (by decide), if_neg (nI_nlt (by omega) (by omega))]
    rfl
  | n + 1, j, hj => by
    have ih := key_lp w J hi Pk e8 e9 b0 b4 b5 hol_n n (j + 1) (by omega)
    rw [b_214_2, dk_g w hi Pk (by decide), if_pos (nI_lt (by omega) (by omega)), gR_0_8 w, dk_g w hi Pk (by decide), dk_g w hi Pk (by decide), dk_g w hi Pk (by decide), is_41 w, show (24 : Int32) = nI 24 from rfl, pk_mul, nI_add, nI_add, c_holder' w J b0 (by omega), anyN, nI_1, show D 4 * 24 + D 5 + j = D 4 * 24 + (D 5 + j) by omega]
    cases q : hol T P K B (D 0) (D 4 * 24 + (D 5 + j)) mk with
    | none =>
      rw [if_pos (show oI none = -1 from rfl)]
      rfl
    | some p =>
      have hp := hol_n _ p q
      have n1 : ¬ oI (some p) = -1 := fun z => by
        have := congrArg Int32.toInt z
        rw [show oI (some p) = nI p from rfl, toI_nI (by omega), show (-1 : Int32).toInt = -1 from rfl] at this
        omega
      rw [if_neg n1, dr_is w hi, e_3, b_3_0, dr_v w hi e8, kyB, show oI (some p) = nI p from rfl]
      by_cases y1 : a = nI p
      · rw [if_pos y1, decide_eq_true y1, Bool.true_or, Bool.not_true, Bool.false_or]
        exact ih
      · rw [if_neg y1, dr_v w hi e9, decide_eq_false y1, Bool.false_or]
        by_cases y2 : b = nI p
        · rw [if_pos y2, decide_eq_true y2, Bool.not_true, Bool.false_or]
          exact ih
        · rw [if_neg y2, decide_eq_false y2, Bool.not_false, Bool.true_or]
          rfl
theorem c_keyh (w : WF h) {mk : Nat} {T P K : Nat → Nat} {B : Nat → Bool} (J : kyE h mk T P K B) {i : Nat} {D : Nat → Nat} {a b : Int32} (hi : i < 60) (Pk : dpk h i D) (e8 : h.2.1 (77 + i) 8 = a) (e9 : h.2.1 (77 + i) 9 = b) (b0 : D 0 < 6) (b4 : D 4 < 100) (b5 : D 5 + D 6 ≤ 24) (hol_n : ∀ hr p, hol T P K B (D 0) hr mk = some p → p < 10) : ev X (d + 2) 214 [vr (some 0), vr (some (77 + i))] h = av_rI (bI (!anyN (D 6) (D 5) (fun k => !kyB a b (hol T P K B (D 0) (D 4 * 24 + k) mk)))) h := by
  rw [e_214, b_214_0]
  exact key_lp w J hi Pk e8 e9 b0 b4 b5 hol_n (D 6) 0 (by omega)
end
