/-! why a drop may not be: the class, up to the gang -/
theorem bct_0 {M N : Nat} (bM : M < 2 ^ 48) (bN : N < 2 ^ 48) (bb : ∀ c, c < 4 → ∀ f, f < 12 → M.testBit (12 * c + f) = N.testBit (4 * f + c)) : bct M = 0 ↔ N = 0 := by
  rw [← bits_eq2 bM bb]
  constructor
  · intro z
    have y := fb_ct_zero.mp z
    apply Nat.eq_of_testBit_eq
    intro i
    rw [Nat.zero_testBit]
    rcases Nat.lt_or_ge i 48 with u | u
    · exact y i u
    · exact Nat.testBit_lt_two_pow (Nat.lt_of_lt_of_le bN (Nat.pow_le_pow_right (by decide) u))
  · intro z
    exact fb_ct_zero.mpr (fun i _ => by rw [z, Nat.zero_testBit])
/-- up to the gang -/
def wg7 (b1 b2 b3 b4 b5 b6 b7 : Bool) : Int32 := if b1 = true then 1 else if b2 = true then 2 else if b3 = true then 3 else if b4 = true then 4 else if b5 = true then 5 else if b6 = true then 6 else if b7 = true then 7 else 0
section
variable {X : av_X} {d : Nat} {h : av_H}
theorem c_whyG (w : WF h) {u : Ru} (o : u.ok) (C : u.C h) {m t s x e k H a b Cc pn tw sb eb : Nat} {xa xb : Int32} {D : Nat → Nat → Nat} {M N : Nat → Nat} (B : DB m D M N) (Dc : DC h m D M) (hm : m < 60) (t6 : t < 6) (hs : s < 4) (xC : x < Cc) (C10 : Cc ≤ 10) (he : e < 100) (hk : k < 24) (hH : H ≤ 24) (a10 : a < 10) (b10 : b < 10) (k1 : h.1[tw]? = some (9, 0)) (k3 : h.1[tw + 2]? = some (100, 4)) (r6 : h.2.2.2 tw 6 = some (tw + 2)) (hsb : h.2.1 (tw + 2) s = nI sb) (r3 : h.2.1 tw 1 = nI Cc) (heb : h.2.1 27 3 = nI eb) (eb10 : eb < 1024) (pn48 : pn < 100000)
    (e0 : h.2.1 (77 + m) 0 = nI t) (e1 : h.2.1 (77 + m) 1 = nI s) (e2 : h.2.1 (77 + m) 2 = nI x) (e4 : h.2.1 (77 + m) 4 = nI e) (e5 : h.2.1 (77 + m) 5 = nI k) (e6 : h.2.1 (77 + m) 6 = nI H) (e8 : h.2.1 (77 + m) 8 = nI a) (e9 : h.2.1 (77 + m) 9 = nI b) (e10 : h.2.1 (77 + m) 10 = xa) (e11 : h.2.1 (77 + m) 11 = xb) (e12 : h.2.1 (77 + m) 12 = nI pn) : ev X (d + 4) 206 [vr (some 0), vr (some (77 + m)), vr (some tw)] h = av_rI (wg7 (sb.testBit x) (decide (pn = 0)) (decide (a = b) || (!eb.testBit a && !eb.testBit b)) (decide (24 < k + H)) (anyN m 0 (gaB D e k H (nI a) (nI b))) (anyN m 0 (crB D e k H t)) (!drB xa e u.dd || !drB xb e u.dd)) h := by
  have hos := frC_lt (b := sb) C10
  have k34 : bd X (d + 3) 206 34 [(0, vr (some 0)), (1, vr (some (77 + m)))] [] h = av_rI (if decide (24 < k + H) = true then 4 else if anyN m 0 (gaB D e k H (nI a) (nI b)) = true then 5 else if anyN m 0 (crB D e k H t) = true then 6 else if (!drB xa e u.dd || !drB xb e u.dd) = true then 7 else 0) h := by
    rw [b_206_34, dr_v w hm e5, dr_v w hm e6, nI_add]
    by_cases q4 : 24 < k + H
    · rw [if_pos (show (24 : Int32) < nI (k + H) from nI_lt (a := 24) q4 (by omega)), decide_eq_true q4, if_pos rfl]
    · rw [if_neg (show ¬ (24 : Int32) < nI (k + H) from nI_nlt (a := 24) (by omega) (by omega)), decide_eq_false q4, if_neg (show ¬ false = true by decide), is_0 w, c_gang w B Dc hm e4 e5 e6 e8 e9 he hk (by omega), av_cI_r, Option.bind_some]
      cases anyN m 0 (gaB D e k H (nI a) (nI b)) with
      | true => rw [if_neg (show ¬ bI true = 0 by decide), if_pos rfl]
      | false =>
        rw [if_pos (show bI false = 0 from rfl), if_neg (show ¬ false = true by decide), is_0 w, c_crad w B Dc hm e4 e5 e6 e0 t6 he hk (by omega), av_cI_r, Option.bind_some]
        cases anyN m 0 (crB D e k H t) with
        | true => rw [if_neg (show ¬ bI true = 0 by decide), if_pos rfl]
        | false =>
          rw [if_pos (show bI false = 0 from rfl), if_neg (show ¬ false = true by decide), dr_v w hm e10, dr_v w hm e4, is_0 w, c_drl o w C, av_cI_r, Option.bind_some]
          cases drB xa e u.dd with
          | false => rw [if_pos (show bI false = 0 from rfl), Bool.not_false, Bool.true_or, if_pos rfl]
          | true =>
            rw [if_neg (show ¬ bI true = 0 by decide), dr_v w hm e11, dr_v w hm e4, is_0 w, c_drl o w C, av_cI_r, Option.bind_some, Bool.not_true, Bool.false_or]
            cases drB xb e u.dd with
            | false => rw [if_pos (show bI false = 0 from rfl), Bool.not_false, if_pos rfl]
            | true => rw [if_neg (show ¬ bI true = 0 by decide), Bool.not_true, if_neg (show ¬ false = true by decide)]
  rw [e_206, b_206_0, dr_v w hm e1, tw_is k1, c_openS' k1 k3 r6 hs hsb r3 C10, dr_v w hm e2, c_hasBit' (by omega) (by omega), frM_bit, decide_eq_true xC, Bool.true_and, wg7]
  cases sb.testBit x with
  | true => rw [Bool.not_true, if_pos (show bI false = 0 from rfl), if_pos rfl]
  | false =>
    rw [Bool.not_false, if_neg (show ¬ bI true = 0 by decide), if_neg (show ¬ false = true by decide), dr_v w hm e12]
    by_cases q2 : pn = 0
    · rw [if_pos (by rw [q2]; rfl), decide_eq_true q2, if_pos rfl]
    · rw [if_neg (nI_ne0 (by omega) (by omega)), decide_eq_false q2, if_neg (show ¬ false = true by decide), dr_v w hm e8, dr_v w hm e9]
      by_cases q3 : a = b
      · rw [if_pos (congrArg nI q3), decide_eq_true q3, Bool.true_or, if_pos rfl]
      · rw [if_neg (fun y => q3 ((nI_eq (by omega) (by omega)).mp y)), decide_eq_false q3, Bool.false_or, gR_0_6 w, dr_v w hm e8, is_27 w, c_isEl' w heb eb10 (by omega)]
        cases eb.testBit a with
        | true =>
          rw [if_neg (show ¬ bI true = 0 by decide), Bool.not_true, Bool.false_and, if_neg (show ¬ false = true by decide)]
          exact k34
        | false =>
          rw [if_pos (show bI false = 0 from rfl), gR_0_6 w, dr_v w hm e9, is_27 w, c_isEl' w heb eb10 (by omega), Bool.not_false, Bool.true_and]
          cases eb.testBit b with
          | true =>
            rw [if_neg (show ¬ bI true = 0 by decide), Bool.not_true, if_neg (show ¬ false = true by decide)]
            exact k34
          | false => rw [if_pos (show bI false = 0 from rfl), Bool.not_false, if_pos rfl]
end
