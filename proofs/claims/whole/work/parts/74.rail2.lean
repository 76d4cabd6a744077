/-! open stops, the columns that they reach -/
def rcM (S : Nat) : Nat → Nat
  | 0 => 0
  | k + 1 => rcM S k ||| S * 2 ^ k
theorem rcM_bit {S c : Nat} : ∀ n, (rcM S n).testBit c = anyN n 0 (fun k => decide (k ≤ c) && S.testBit (c - k))
  | 0 => by simp [rcM, anyN]
  | n + 1 => by
    rw [rcM, Nat.testBit_or, rcM_bit n, Nat.testBit_mul_two_pow, anyN_snoc, Nat.zero_add]
theorem rcM_lt {S : Nat} (hS : S < 2 ^ 10) : ∀ n, n ≤ 4 → rcM S n < 2 ^ 13
  | 0, _ => by simp [rcM]
  | n + 1, hn => by
    refine Nat.or_lt_two_pow (rcM_lt hS n (by omega)) ?_
    have h1 : (2 : Nat) ^ n ≤ 2 ^ 3 := Nat.pow_le_pow_right (by decide) (by omega)
    calc S * 2 ^ n ≤ S * 2 ^ 3 := Nat.mul_le_mul_left _ h1
      _ < 2 ^ 13 := by omega
def shtN (h : av_H) (a s : Nat) : Nat := (h.2.1 (a + 2) s).toNatClampNeg
/-- column c is reached from a stop that is open -/
def cvB (b W c : Nat) : Bool := anyN (c + 1) 0 (fun x => decide (c < x + W) && !b.testBit x)
theorem cv_eq {b C W c : Nat} (hc : c < C) : (rcM (frM C b) W &&& (2 ^ C - 1)).testBit c = cvB b W c := by
  rw [Nat.testBit_and, Nat.testBit_two_pow_sub_one, decide_eq_true hc, Bool.and_true, rcM_bit, cvB, Bool.eq_iff_iff, anyN_iff, anyN_iff]
  constructor
  · rintro ⟨k, h1, h2, h3⟩
    rw [Bool.and_eq_true, decide_eq_true_eq, frM_bit, Bool.and_eq_true, decide_eq_true_eq] at h3
    exact ⟨c - k, by omega, by omega, by rw [Bool.and_eq_true, decide_eq_true_eq]; exact ⟨by omega, h3.2.2⟩⟩
  · rintro ⟨x, h1, h2, h3⟩
    rw [Bool.and_eq_true, decide_eq_true_eq] at h3
    exact ⟨c - x, by omega, by omega, by rw [Bool.and_eq_true, decide_eq_true_eq, frM_bit, Bool.and_eq_true, decide_eq_true_eq, show c - (c - x) = x by omega]; exact ⟨by omega, by omega, h3.2⟩⟩
section
variable {X : av_X} {d : Nat} {h : av_H}
theorem twV.sht {t a : Nat} (T : twV h t a) {s : Nat} (hs : s < 4) : shtN h a s < 1024 ∧ h.2.1 (a + 2) s = nI (shtN h a s) ∧ ∀ x, x < 10 → h.2.1 147 ((4 * t + s) * 10 + x) = bI ((shtN h a s).testBit x) := by
  obtain ⟨b, b1, b2, b3⟩ := T.2.2.2.2.2.2.2.2 s hs
  have e : shtN h a s = b := by
    unfold shtN
    rw [b2, nI_clamp (by omega)]
  rw [e]
  exact ⟨b1, b2, b3⟩
theorem twA.sht {t a : Nat} (T : twA h t a) {s : Nat} (hs : s < 4) : shtN h a s < 1024 ∧ h.2.1 (a + 2) s = nI (shtN h a s) ∧ ∀ x, x < 10 → h.2.1 147 ((4 * t + s) * 10 + x) = bI ((shtN h a s).testBit x) := T.v.sht hs
theorem frC_lt {C b : Nat} (hC : C ≤ 10) : frM C b < 1024 := by
  have h1 : (2 : Nat) ^ C ≤ 2 ^ 10 := Nat.pow_le_pow_right (by decide) hC
  have h2 := Nat.two_pow_pos C
  exact nd_lt (n := 10) (by omega)
theorem c_openS {a s b C : Nat} (k1 : h.1[a]? = some (9, 0)) (k3 : h.1[a + 2]? = some (100, 4)) (r6 : h.2.2.2 a 6 = some (a + 2)) (hs : s < 4) (hb : h.2.1 (a + 2) s = nI b) (hC : h.2.1 a 1 = nI C) (C10 : C ≤ 10) : ev X (d + 3) 121 [vr (some a), vi (nI s)] h = av_rI (nI (frM C b)) h := by
  have p2 := Nat.two_pow_pos C
  have hr : rg (nI s) 0 3 = true := rg_lt2 (n := 3) (by omega) (by omega)
  rw [e_121, b_121_0, c_isSide', hr, if_neg (show ¬ bI true = 0 by decide), tw_gR6 k1 r6, tw_l4 k3 hs, hb, tw_gIv k1 hC, nb_sh1 C (by omega), nI_prd p2, Int32.and_comm, nb_andn, frM]
theorem c_openS' {a s b C : Nat} (k1 : h.1[a]? = some (9, 0)) (k3 : h.1[a + 2]? = some (100, 4)) (r6 : h.2.2.2 a 6 = some (a + 2)) (hs : s < 4) (hb : h.2.1 (a + 2) s = nI b) (hC : h.2.1 a 1 = nI C) (C10 : C ≤ 10) {β : Type} (Kc : Int32 × av_H → Option β) : (av_cI (ev X (d + 3) 121 [vr (some a), vi (nI s)] h)).bind Kc = Kc (nI (frM C b), h) := by rw [c_openS k1 k3 r6 hs hb hC C10]; rfl
theorem rc_lp {a W C S : Nat} (k1 : h.1[a]? = some (9, 0)) (hW : h.2.1 a 2 = nI W) (W4 : W ≤ 4) (hC : h.2.1 a 1 = nI C) (C10 : C ≤ 10) (hS : S < 1024) : ∀ n k, k + n = W → bd X (d + 1) 122 4 [(0, vr (some a)), (1, vi (nI S)), (2, vi (nI (rcM S k))), (3, vi (nI k))] [] h = av_rI (nI (rcM S W &&& (2 ^ C - 1))) h
  | 0, k, hk => by
    obtain rfl : k = W := by omega
    have p2 := Nat.two_pow_pos C
    rw [b_122_4, tw_gIv k1 hW, if_neg (nI_nlt (by omega) (by omega)), tw_gIv k1 hC, nb_sh1 C (by omega), nI_prd p2, nb_and]
  | n + 1, k, hk => by
    have ih := rc_lp k1 hW W4 hC C10 hS n (k + 1) (by omega)
    have h1 : (2 : Nat) ^ k ≤ 2 ^ 3 := Nat.pow_le_pow_right (by decide) (by omega)
    have h2 : S * 2 ^ k ≤ S * 2 ^ 3 := Nat.mul_le_mul_left _ h1
    rw [b_122_4, tw_gIv k1 hW, if_pos (nI_lt (by omega) (by omega)), nb_shl (by omega) (by omega), nb_or, nI_1]
    exact ih
theorem c_reC {a W C S : Nat} (k1 : h.1[a]? = some (9, 0)) (hW : h.2.1 a 2 = nI W) (W4 : W ≤ 4) (hC : h.2.1 a 1 = nI C) (C10 : C ≤ 10) (hS : S < 1024) : ev X (d + 2) 122 [vr (some a), vi (nI S)] h = av_rI (nI (rcM S W &&& (2 ^ C - 1))) h := by
  rw [e_122, b_122_0]
  exact rc_lp k1 hW W4 hC C10 hS W 0 (by omega)
theorem c_reC' {a W C S : Nat} (k1 : h.1[a]? = some (9, 0)) (hW : h.2.1 a 2 = nI W) (W4 : W ≤ 4) (hC : h.2.1 a 1 = nI C) (C10 : C ≤ 10) (hS : S < 1024) {β : Type} (Kc : Int32 × av_H → Option β) : (av_cI (ev X (d + 2) 122 [vr (some a), vi (nI S)] h)).bind Kc = Kc (nI (rcM S W &&& (2 ^ C - 1)), h) := by rw [c_reC k1 hW W4 hC C10 hS]; rfl
theorem cv_lp (w : WF h) {t s c W b : Nat} (h6 : t < 6) (hs : s < 4) (hc : c < 10) (hW : h.2.1 148 t = nI W) (W4 : W ≤ 4) (hb : ∀ x, x < 10 → h.2.1 147 ((4 * t + s) * 10 + x) = bI (b.testBit x)) : ∀ n x (v : Bool), x + n = c + 1 → bd X (d + 1) 311 4 [(0, vr (some 137)), (1, vi (nI t)), (2, vi (nI s)), (3, vi (nI c)), (4, vi (bI v)), (5, vi (nI x))] [] h = av_rI (bI (v || anyN n x (fun x => decide (c < x + W) && !b.testBit x))) h
  | 0, x, v, hx => by
    rw [b_311_4, if_pos (nI_lt (by omega) (by omega)), zb_b, anyN, Bool.or_false]
  | n + 1, x, v, hx => by
    have ih := cv_lp w h6 hs hc hW W4 hb n (x + 1)
    rw [b_311_4, if_neg (nI_nlt (by omega) (by omega)), nI_1, anyN]
    cases v with
    | true =>
      have z := ih true (by omega)
      rw [Bool.true_or] at z ⊢
      rw [if_neg (show ¬ bI true = 0 by decide)]
      exact z
    | false =>
      rw [if_pos (show bI false = 0 from rfl), gR_137_15 w, ld_148 w h6, hW, nI_add, Bool.false_or]
      by_cases q : c < x + W
      · rw [if_pos (nI_lt q (by omega)), gR_137_14 w, s_stopOf', ld_147 w (by omega), hb x (by omega), decide_eq_true q, Bool.true_and]
        cases b.testBit x with
        | false =>
          rw [if_pos (show bI false = 0 from rfl)]
          exact ih true (by omega)
        | true =>
          rw [if_neg (show ¬ bI true = 0 by decide)]
          exact ih false (by omega)
      · rw [if_neg (nI_nlt (by omega) (by omega)), decide_eq_false q, Bool.false_and]
        exact ih false (by omega)
theorem s_cov {t s c W b : Nat} (w : WF h) (h6 : t < 6) (hs : s < 4) (hc : c < 10) (hW : h.2.1 148 t = nI W) (W4 : W ≤ 4) (hb : ∀ x, x < 10 → h.2.1 147 ((4 * t + s) * 10 + x) = bI (b.testBit x)) : ev X (d + 2) 311 [vr (some 137), vi (nI t), vi (nI s), vi (nI c)] h = av_rI (bI (cvB b W c)) h := by
  rw [e_311, b_311_0]
  exact cv_lp w h6 hs hc hW W4 hb (c + 1) 0 false (by omega)
theorem s_cov' {t s c W b : Nat} (w : WF h) (h6 : t < 6) (hs : s < 4) (hc : c < 10) (hW : h.2.1 148 t = nI W) (W4 : W ≤ 4) (hb : ∀ x, x < 10 → h.2.1 147 ((4 * t + s) * 10 + x) = bI (b.testBit x)) {β : Type} (Kc : Int32 × av_H → Option β) : (av_cI (ev X (d + 2) 311 [vr (some 137), vi (nI t), vi (nI s), vi (nI c)] h)).bind Kc = Kc (bI (cvB b W c), h) := by rw [s_cov w h6 hs hc hW W4 hb]; rfl
end
