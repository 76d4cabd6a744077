/-! cover -/
/-- the set of what holds below n -/
def bs (P : Nat → Bool) : Nat → Nat
  | 0 => 0
  | k + 1 => if P k = true then bs P k ||| 2 ^ k else bs P k
theorem bs_lt {P : Nat → Bool} : ∀ n, bs P n < 2 ^ n
  | 0 => by
    show 0 < 1
    decide
  | n + 1 => by
    have ih := bs_lt (P := P) n
    have p2 := Nat.two_pow_pos n
    have e : (2 : Nat) ^ (n + 1) = 2 ^ n * 2 := Nat.pow_succ 2 n
    rw [bs]
    by_cases q : P n = true
    · rw [if_pos q]
      exact Nat.or_lt_two_pow (by omega) (by omega)
    · rw [if_neg q]
      omega
theorem bs_bit {P : Nat → Bool} {i : Nat} : ∀ n, (bs P n).testBit i = (decide (i < n) && P i)
  | 0 => by rw [bs, Nat.zero_testBit, decide_eq_false (by omega), Bool.false_and]
  | n + 1 => by
    rw [bs]
    have ih := bs_bit (P := P) (i := i) n
    by_cases z : i = n
    · subst z
      rw [decide_eq_true (show i < i + 1 by omega), Bool.true_and]
      rw [decide_eq_false (show ¬ i < i by omega), Bool.false_and] at ih
      cases q : P i with
      | true => rw [if_pos rfl, Nat.testBit_or, ih, Nat.testBit_two_pow_self, Bool.or_true]
      | false => rw [if_neg (by decide), ih]
    · rw [show decide (i < n + 1) = decide (i < n) from decide_eq_decide.mpr (by omega), ← ih]
      cases q : P n with
      | true => rw [if_pos rfl, Nat.testBit_or, Nat.testBit_two_pow_of_ne (fun y => z y.symm), Bool.or_false]
      | false => rw [if_neg (by decide)]
theorem bs_cg {P Q : Nat → Bool} : ∀ n, (∀ i, i < n → P i = Q i) → bs P n = bs Q n
  | 0, _ => rfl
  | n + 1, q => by rw [bs, bs, q n (by omega), bs_cg n (fun i hi => q i (by omega))]
/-- what stops S cover, from stop 0 on -/
def orM (S W : Nat) : Nat → Nat
  | 0 => 0
  | x + 1 => if S.testBit x = true then orM S W x ||| (2 ^ W - 1) * 2 ^ x else orM S W x
theorem orM_bit {S W c : Nat} : ∀ n, (orM S W n).testBit c = anyN n 0 (fun x => S.testBit x && (decide (x ≤ c) && decide (c < x + W)))
  | 0 => by rw [orM, Nat.zero_testBit, anyN]
  | n + 1 => by
    rw [orM, anyN_snoc, Nat.zero_add]
    cases q : S.testBit n with
    | true =>
      rw [if_pos rfl, Nat.testBit_or, orM_bit n, Nat.testBit_mul_two_pow, Nat.testBit_two_pow_sub_one, Bool.true_and]
      by_cases z : n ≤ c
      · rw [decide_eq_true z, show decide (c - n < W) = decide (c < n + W) from decide_eq_decide.mpr (by omega)]
      · rw [decide_eq_false z, Bool.false_and, Bool.false_and]
    | false => rw [if_neg (by decide), orM_bit n, Bool.false_and, Bool.or_false]
theorem orM_lt {S W : Nat} (W4 : W ≤ 4) : ∀ n, n ≤ 10 → orM S W n < 2 ^ 14
  | 0, _ => by
    show 0 < 2 ^ 14
    decide
  | n + 1, hn => by
    have ih := orM_lt (S := S) W4 n (by omega)
    have h1 : (2 : Nat) ^ W ≤ 2 ^ 4 := Nat.pow_le_pow_right (by decide) W4
    have h2 : (2 : Nat) ^ n ≤ 2 ^ 9 := Nat.pow_le_pow_right (by decide) (by omega)
    have h3 : (2 ^ W - 1) * 2 ^ n ≤ 15 * 2 ^ 9 := Nat.mul_le_mul (by omega) h2
    rw [orM]
    by_cases q : S.testBit n = true
    · rw [if_pos q]
      exact Nat.or_lt_two_pow ih (by omega)
    · rw [if_neg q]
      exact ih
/-- the fewest, the first of as many -/
def fwN : Option Nat → Nat
  | none => 11
  | some s => bct s
def fs (P : Nat → Bool) : Nat → Option Nat
  | 0 => none
  | n + 1 => if (P n && decide (bct n < fwN (fs P n))) = true then some n else fs P n
theorem fs_in {P : Nat → Bool} {s : Nat} : ∀ n, fs P n = some s → s < n
  | 0, z => by cases z
  | n + 1, z => by
    rw [fs] at z
    by_cases q : (P n && decide (bct n < fwN (fs P n))) = true
    · rw [if_pos q] at z
      injection z with z
      omega
    · rw [if_neg q] at z
      have := fs_in n z
      omega
theorem fs_cg {P Q : Nat → Bool} : ∀ n, (∀ i, i < n → P i = Q i) → fs P n = fs Q n
  | 0, _ => rfl
  | n + 1, q => by rw [fs, fs, q n (by omega), fs_cg n (fun i hi => q i (by omega))]
theorem fs_st {P : Nat → Bool} {a : Nat} : ∀ n, (∀ i, a ≤ i → P i = false) → fs P (a + n) = fs P a
  | 0, _ => rfl
  | n + 1, q => by
    rw [show a + (n + 1) = (a + n) + 1 by omega, fs, q (a + n) (by omega), Bool.false_and, if_neg (by decide), fs_st n q]
theorem bct_11 : ∀ n, n < 1024 → bct n < 11 := by decide +kernel
theorem fct_48 {p : Nat → Bool} {a : Nat} : ∀ n, (∀ i, a ≤ i → p i = false) → fb_ct p (a + n) = fb_ct p a
  | 0, _ => rfl
  | n + 1, q => by
    rw [show a + (n + 1) = (a + n) + 1 by omega, fb_ct_succ, q (a + n) (by omega), if_neg (by decide), Nat.add_zero, fct_48 n q]
theorem bct_48 {n : Nat} (hn : n < 2 ^ 48) : fb_ct (fun i => n.testBit i) 48 = bct n := by
  rw [bct, show 64 = 48 + 16 from rfl, fct_48 16 (fun i hi => Nat.testBit_lt_two_pow (Nat.lt_of_lt_of_le hn (Nat.pow_le_pow_right (by decide) hi)))]
theorem nd_cg {a b c C : Nat} (ha : a < 2 ^ C) (q : ∀ i, i < C → b.testBit i = c.testBit i) : nd a b = nd a c := by
  apply Nat.eq_of_testBit_eq
  intro i
  rw [nd_bit, nd_bit]
  by_cases z : i < C
  · rw [q i z]
  · rw [Nat.testBit_lt_two_pow (Nat.lt_of_lt_of_le ha (Nat.pow_le_pow_right (by decide) (by omega))), Bool.false_and, Bool.false_and]
theorem nd_0 {a b : Nat} : nd a b = 0 ↔ ∀ i, a.testBit i = true → b.testBit i = true := by
  constructor
  · intro z i q
    have y := nd_bit a b i
    rw [z, Nat.zero_testBit, q, Bool.true_and] at y
    cases e : b.testBit i with
    | true => rfl
    | false => rw [e] at y; cases y
  · intro z
    apply Nat.eq_of_testBit_eq
    intro i
    rw [nd_bit, Nat.zero_testBit]
    cases q : a.testBit i with
    | false => rfl
    | true => rw [z i q]; rfl
/-- stops S may be taken and cover all that is needed: the class's way and the reference's -/
def cvC (C b W NB S : Nat) : Bool := decide (nd S (frM C b) = 0) && decide (nd NB (rcM S W &&& (2 ^ C - 1)) = 0)
def cvR (C b W NB S : Nat) : Bool := !anyN C 0 (fun x => S.testBit x && b.testBit x) && decide (nd NB (orM S W C) = 0)
theorem cv_CR {C b W NB S : Nat} (hS : S < 2 ^ C) (hNB : NB < 2 ^ C) : cvC C b W NB S = cvR C b W NB S := by
  have e1 : decide (nd S (frM C b) = 0) = !anyN C 0 (fun x => S.testBit x && b.testBit x) := by
    rw [Bool.eq_iff_iff, decide_eq_true_eq, nd_0, Bool.not_eq_true', Bool.eq_false_iff, Ne, anyN_iff]
    constructor
    · rintro z ⟨i, -, h2, h3⟩
      rw [Bool.and_eq_true] at h3
      have y := z i h3.1
      rw [frM_bit, h3.2, Bool.not_true, Bool.and_false] at y
      cases y
    · intro z i q
      have hi : i < C := by
        rcases Nat.lt_or_ge i C with y | y
        · exact y
        · rw [Nat.testBit_lt_two_pow (Nat.lt_of_lt_of_le hS (Nat.pow_le_pow_right (by decide) y))] at q
          cases q
      rw [frM_bit, decide_eq_true hi, Bool.true_and]
      cases y : b.testBit i with
      | false => rfl
      | true => exact absurd ⟨i, by omega, by omega, by rw [q, y]; rfl⟩ z
  have e2 : nd NB (rcM S W &&& (2 ^ C - 1)) = nd NB (orM S W C) := nd_cg hNB (fun c hc => by
    rw [Nat.testBit_and, Nat.testBit_two_pow_sub_one, decide_eq_true hc, Bool.and_true, rcM_bit, orM_bit, Bool.eq_iff_iff, anyN_iff, anyN_iff]
    constructor
    · rintro ⟨k, -, h2, h3⟩
      rw [Bool.and_eq_true, decide_eq_true_eq] at h3
      exact ⟨c - k, by omega, by omega, by rw [h3.2, decide_eq_true (show c - k ≤ c by omega), decide_eq_true (show c < c - k + W by omega)]; rfl⟩
    · rintro ⟨x, -, h2, h3⟩
      rw [Bool.and_eq_true, Bool.and_eq_true, decide_eq_true_eq, decide_eq_true_eq] at h3
      exact ⟨c - x, by omega, by omega, by rw [show c - (c - x) = x by omega, h3.1, decide_eq_true (show c - x ≤ c by omega)]; rfl⟩)
  rw [cvC, cvR, e1, e2]
theorem cvC_le {C b W NB S : Nat} (z : frM C b < S) : cvC C b W NB S = false := by
  rw [cvC]
  have : ¬ nd S (frM C b) = 0 := fun y => by
    rw [nd_0] at y
    have le : S ≤ frM C b := by
      have e : S &&& frM C b = S := by
        apply Nat.eq_of_testBit_eq
        intro i
        rw [Nat.testBit_and]
        cases q : S.testBit i with
        | false => rfl
        | true => rw [y i q]; rfl
      rw [← e]
      exact Nat.and_le_right
    omega
  rw [decide_eq_false this, Bool.false_and]
section
variable {X : av_X} {d : Nat} {h : av_H}
theorem nc_lp {a s C F : Nat} {B : Nat → Nat} (k1 : h.1[a]? = some (9, 0)) (k2 : h.1[a + 1]? = some (100, 40)) (r5 : h.2.2.2 a 5 = some (a + 1)) (hs : s < 4) (hC : h.2.1 a 1 = nI C) (C10 : C ≤ 10) (hB : ∀ c, c < 10 → h.2.1 (a + 1) (s * 10 + c) = nI (B c)) (hF : h.2.1 a 0 = nI F) (F12 : F ≤ 12) : ∀ n c, c + n = C → bd X (d + 2) 123 4 [(0, vr (some a)), (1, vi (nI s)), (2, vi (nI (bs (fun c => !decide (frM F (B c) = 0)) c))), (3, vi (nI c))] [] h = av_rI (nI (bs (fun c => !decide (frM F (B c) = 0)) C)) h
  | 0, c, hc => by
    obtain rfl : c = C := by omega
    rw [b_123_4, tw_gIv k1 hC, if_neg (nI_nlt (by omega) (by omega))]
  | n + 1, c, hc => by
    have ih := nc_lp k1 k2 r5 hs hC C10 hB hF F12 n (c + 1) (by omega)
    have fl := frM_lt (F := F) (b := B c) F12
    rw [bs] at ih
    rw [b_123_4, tw_gIv k1 hC, if_pos (nI_lt (by omega) (by omega)), tw_is k1, c_freeF' k1 k2 r5 hs (by omega) (hB c (by omega)) hF F12, nI_1]
    by_cases z : frM F (B c) = 0
    · rw [decide_eq_true z, Bool.not_true, if_neg (by decide)] at ih
      rw [if_pos (show nI (frM F (B c)) = 0 by rw [z]; rfl), show (0 : Int32) = nI 0 from rfl, nb_or, Nat.or_zero]
      exact ih
    · rw [decide_eq_false z, Bool.not_false, if_pos rfl] at ih
      rw [if_neg (nI_ne0 (by omega) (by omega)), nb_sh1 c (by omega), nb_or]
      exact ih
theorem c_need {a s C F : Nat} {B : Nat → Nat} (k1 : h.1[a]? = some (9, 0)) (k2 : h.1[a + 1]? = some (100, 40)) (r5 : h.2.2.2 a 5 = some (a + 1)) (hs : s < 4) (hC : h.2.1 a 1 = nI C) (C10 : C ≤ 10) (hB : ∀ c, c < 10 → h.2.1 (a + 1) (s * 10 + c) = nI (B c)) (hF : h.2.1 a 0 = nI F) (F12 : F ≤ 12) : ev X (d + 3) 123 [vr (some a), vi (nI s)] h = av_rI (nI (bs (fun c => !decide (frM F (B c) = 0)) C)) h := by
  rw [e_123, b_123_0]
  exact nc_lp k1 k2 r5 hs hC C10 hB hF F12 C 0 (by omega)
theorem c_need' {a s C F : Nat} {B : Nat → Nat} (k1 : h.1[a]? = some (9, 0)) (k2 : h.1[a + 1]? = some (100, 40)) (r5 : h.2.2.2 a 5 = some (a + 1)) (hs : s < 4) (hC : h.2.1 a 1 = nI C) (C10 : C ≤ 10) (hB : ∀ c, c < 10 → h.2.1 (a + 1) (s * 10 + c) = nI (B c)) (hF : h.2.1 a 0 = nI F) (F12 : F ≤ 12) {β : Type} (Kc : Int32 × av_H → Option β) : (av_cI (ev X (d + 3) 123 [vr (some a), vi (nI s)] h)).bind Kc = Kc (nI (bs (fun c => !decide (frM F (B c) = 0)) C), h) := by rw [c_need k1 k2 r5 hs hC C10 hB hF F12]; rfl
theorem fw_lp {a C W NB b : Nat} (k1 : h.1[a]? = some (9, 0)) (hW : h.2.1 a 2 = nI W) (W4 : W ≤ 4) (hC : h.2.1 a 1 = nI C) (C10 : C ≤ 10) (hNB : NB < 2 ^ C) : ∀ n S, S + n = frM C b + 1 → bd X (d + 3) 124 14 [(0, vr (some a)), (2, vi (nI (frM C b))), (3, vi (nI NB)), (4, vi (oI (fs (cvC C b W NB) S))), (5, vi (nI (fwN (fs (cvC C b W NB) S)))), (6, vi (nI S))] [] h = av_rI (oI (fs (cvC C b W NB) (frM C b + 1))) h
  | 0, S, hS => by
    have lt := frC_lt (b := b) C10
    obtain rfl : S = frM C b + 1 := by omega
    rw [b_124_14, if_pos (nI_lt (by omega) (by omega))]
  | n + 1, S, hS => by
    have lt := frC_lt (b := b) C10
    have nlt : NB < 2 ^ 10 := Nat.lt_of_lt_of_le hNB (Nat.pow_le_pow_right (by decide) C10)
    have ih := fw_lp (b := b) k1 hW W4 hC C10 hNB n (S + 1) (by omega)
    have fwb : fwN (fs (cvC C b W NB) S) < 100 := by
      cases fs (cvC C b W NB) S with
      | none => decide
      | some s => exact Nat.lt_of_le_of_lt (fb_ct_le _ _) (by decide)
    have bS : bct S < 100 := Nat.lt_of_le_of_lt (fb_ct_le _ _) (by decide)
    have nS : nd S (frM C b) < 1024 := nd_lt (n := 10) (by omega)
    have nN : nd NB (rcM S W &&& (2 ^ C - 1)) < 1024 := nd_lt (n := 10) nlt
    rw [fs, cvC] at ih
    have no : bd X (d + 3) 124 14 [(0, vr (some a)), (2, vi (nI (frM C b))), (3, vi (nI NB)), (4, vi (oI (fs (cvC C b W NB) S))), (5, vi (nI (fwN (fs (cvC C b W NB) S)))), (6, vi (nI (S + 1)))] [] h = av_rI (oI (fs (cvC C b W NB) (frM C b + 1))) h → bd X (d + 3) 124 29 [(0, vr (some a)), (2, vi (nI (frM C b))), (3, vi (nI NB)), (4, vi (oI (fs (cvC C b W NB) S))), (5, vi (nI (fwN (fs (cvC C b W NB) S)))), (6, vi (nI S))] [] h = av_rI (oI (fs (cvC C b W NB) (frM C b + 1))) h := fun ih => by
      rw [b_124_29, b_124_30, if_pos rfl, nI_1]
      exact ih
    rw [b_124_14, if_neg (nI_nlt (by omega) (by omega)), nb_andn]
    by_cases q1 : nd S (frM C b) = 0
    · rw [decide_eq_true q1, Bool.true_and] at ih
      rw [if_pos (show nI (nd S (frM C b)) = 0 by rw [q1]; rfl), c_bc32' (by omega)]
      by_cases q2 : bct S < fwN (fs (cvC C b W NB) S)
      · rw [decide_eq_true q2, Bool.and_true] at ih
        rw [if_pos (nI_lt q2 (by omega)), b_124_30, if_neg (by decide), tw_is k1, c_reC' k1 hW W4 hC C10 (by omega), nb_andn, nI_1]
        by_cases q3 : nd NB (rcM S W &&& (2 ^ C - 1)) = 0
        · rw [if_pos (decide_eq_true q3)] at ih
          rw [if_pos (show nI (nd NB (rcM S W &&& (2 ^ C - 1))) = 0 by rw [q3]; rfl), c_bc32' (by omega)]
          exact ih
        · rw [if_neg (by rw [decide_eq_false q3]; decide)] at ih
          rw [if_neg (nI_ne0 (by omega) (by omega))]
          exact ih
      · rw [decide_eq_false q2, Bool.and_false, if_neg (by decide)] at ih
        rw [if_neg (nI_nlt (by omega) (by omega))]
        exact no ih
    · rw [decide_eq_false q1, Bool.false_and, Bool.false_and, if_neg (by decide)] at ih
      rw [if_neg (nI_ne0 (by omega) (by omega))]
      exact no ih
theorem c_few {a s C F W b : Nat} {B : Nat → Nat} (k1 : h.1[a]? = some (9, 0)) (k2 : h.1[a + 1]? = some (100, 40)) (k3 : h.1[a + 2]? = some (100, 4)) (r5 : h.2.2.2 a 5 = some (a + 1)) (r6 : h.2.2.2 a 6 = some (a + 2)) (hs : s < 4) (hC : h.2.1 a 1 = nI C) (C10 : C ≤ 10) (hB : ∀ c, c < 10 → h.2.1 (a + 1) (s * 10 + c) = nI (B c)) (hb : h.2.1 (a + 2) s = nI b) (hF : h.2.1 a 0 = nI F) (F12 : F ≤ 12) (hW : h.2.1 a 2 = nI W) (W4 : W ≤ 4) : ev X (d + 4) 124 [vr (some a), vi (nI s)] h = av_rI (oI (fs (cvC C b W (bs (fun c => !decide (frM F (B c) = 0)) C)) (frM C b + 1))) h := by
  rw [e_124, b_124_0, tw_is k1, c_openS' k1 k3 r6 hs hb hC C10, tw_is k1, c_need' k1 k2 r5 hs hC C10 hB hF F12]
  exact fw_lp (b := b) k1 hW W4 hC C10 (bs_lt C) (frM C b + 1) 0 (by omega)
theorem c_few' {a s C F W b : Nat} {B : Nat → Nat} (k1 : h.1[a]? = some (9, 0)) (k2 : h.1[a + 1]? = some (100, 40)) (k3 : h.1[a + 2]? = some (100, 4)) (r5 : h.2.2.2 a 5 = some (a + 1)) (r6 : h.2.2.2 a 6 = some (a + 2)) (hs : s < 4) (hC : h.2.1 a 1 = nI C) (C10 : C ≤ 10) (hB : ∀ c, c < 10 → h.2.1 (a + 1) (s * 10 + c) = nI (B c)) (hb : h.2.1 (a + 2) s = nI b) (hF : h.2.1 a 0 = nI F) (F12 : F ≤ 12) (hW : h.2.1 a 2 = nI W) (W4 : W ≤ 4) {β : Type} (Kc : Int32 × av_H → Option β) : (av_cI (ev X (d + 4) 124 [vr (some a), vi (nI s)] h)).bind Kc = Kc (oI (fs (cvC C b W (bs (fun c => !decide (frM F (B c) = 0)) C)) (frM C b + 1)), h) := by rw [c_few k1 k2 k3 r5 r6 hs hC C10 hB hb hF F12 hW W4]; rfl
/-! the reference -/
theorem wf_lp (w : WF h) {t s c F bm v3 : Nat} (t6 : t < 6) (hs : s < 4) (hc : c < 10) (hF : h.2.1 143 t = nI F) (F12 : F ≤ 12) (hb : ∀ f, f < 12 → h.2.1 145 (((4 * t + s) * 12 + f) * 10 + c) = bI (bm.testBit f)) : ∀ n f, f + n = F → bd X (d + 1) 314 14 [(0, vr (some 137)), (1, vi (nI t)), (2, vi (nI s)), (3, vi (nI v3)), (4, vi (nI c)), (5, vi (bI (anyN f 0 (fun f => !bm.testBit f)))), (6, vi (nI f))] [] h = bd X (d + 1) 314 4 [(0, vr (some 137)), (1, vi (nI t)), (2, vi (nI s)), (3, vi (nI (if anyN F 0 (fun f => !bm.testBit f) = true then v3 ||| 2 ^ c else v3))), (4, vi (nI (c + 1)))] [] h
  | 0, f, hf => by
    obtain rfl : f = F := by omega
    rw [b_314_14, gR_137_10 w, ld_143 w t6, hF, if_neg (nI_nlt (by omega) (by omega)), nI_1]
    cases anyN f 0 (fun f => !bm.testBit f) with
    | false => rw [if_pos (show bI false = 0 from rfl), if_neg (show ¬ false = true by decide), show (0 : Int32) = nI 0 from rfl, nb_or, Nat.or_zero]
    | true => rw [if_neg (show ¬ bI true = 0 by decide), if_pos rfl, nb_sh1 c (by omega), nb_or]
  | n + 1, f, hf => by
    have ih := wf_lp w (v3 := v3) t6 hs hc hF F12 hb n (f + 1) (by omega)
    rw [anyN_snoc, Nat.zero_add] at ih
    rw [b_314_14, gR_137_10 w, ld_143 w t6, hF, if_pos (nI_lt (by omega) (by omega)), nI_1]
    cases q : anyN f 0 (fun f => !bm.testBit f) with
    | true =>
      rw [q, Bool.true_or] at ih
      rw [if_neg (show ¬ bI true = 0 by decide)]
      exact ih
    | false =>
      rw [q, Bool.false_or] at ih
      rw [if_pos (show bI false = 0 from rfl), gR_137_12 w, s_paneOf', ld_145 w (by omega), hb f (by omega)]
      cases y : bm.testBit f with
      | false =>
        rw [y] at ih
        rw [if_pos (show bI false = 0 from rfl)]
        exact ih
      | true =>
        rw [y] at ih
        rw [if_neg (show ¬ bI true = 0 by decide)]
        exact ih
theorem wc_lp (w : WF h) {t s F C : Nat} {B : Nat → Nat} (t6 : t < 6) (hs : s < 4) (hF : h.2.1 143 t = nI F) (F12 : F ≤ 12) (hC : h.2.1 144 t = nI C) (C10 : C ≤ 10) (hb : ∀ c, c < 10 → ∀ f, f < 12 → h.2.1 145 (((4 * t + s) * 12 + f) * 10 + c) = bI ((B c).testBit f)) : ∀ n c, c + n = C → bd X (d + 1) 314 4 [(0, vr (some 137)), (1, vi (nI t)), (2, vi (nI s)), (3, vi (nI (bs (fun c => anyN F 0 (fun f => !(B c).testBit f)) c))), (4, vi (nI c))] [] h = av_rI (nI (bs (fun c => anyN F 0 (fun f => !(B c).testBit f)) C)) h
  | 0, c, hc => by
    obtain rfl : c = C := by omega
    rw [b_314_4, gR_137_11 w, ld_144 w t6, hC, if_neg (nI_nlt (by omega) (by omega))]
  | n + 1, c, hc => by
    have ih := wc_lp w t6 hs hF F12 hC C10 hb n (c + 1) (by omega)
    have st := wf_lp (X := X) (d := d) w (v3 := bs (fun c => anyN F 0 (fun f => !(B c).testBit f)) c) t6 hs (show c < 10 by omega) hF F12 (hb c (by omega)) F 0 (by omega)
    rw [bs] at ih
    rw [b_314_4, gR_137_11 w, ld_144 w t6, hC, if_pos (nI_lt (by omega) (by omega))]
    exact st.trans ih
theorem s_want {t s F C : Nat} {B : Nat → Nat} (w : WF h) (t6 : t < 6) (hs : s < 4) (hF : h.2.1 143 t = nI F) (F12 : F ≤ 12) (hC : h.2.1 144 t = nI C) (C10 : C ≤ 10) (hb : ∀ c, c < 10 → ∀ f, f < 12 → h.2.1 145 (((4 * t + s) * 12 + f) * 10 + c) = bI ((B c).testBit f)) : ev X (d + 2) 314 [vr (some 137), vi (nI t), vi (nI s)] h = av_rI (nI (bs (fun c => anyN F 0 (fun f => !(B c).testBit f)) C)) h := by
  rw [e_314, b_314_0]
  exact wc_lp w t6 hs hF F12 hC C10 hb C 0 (by omega)
theorem s_want' {t s F C : Nat} {B : Nat → Nat} (w : WF h) (t6 : t < 6) (hs : s < 4) (hF : h.2.1 143 t = nI F) (F12 : F ≤ 12) (hC : h.2.1 144 t = nI C) (C10 : C ≤ 10) (hb : ∀ c, c < 10 → ∀ f, f < 12 → h.2.1 145 (((4 * t + s) * 12 + f) * 10 + c) = bI ((B c).testBit f)) {β : Type} (Kc : Int32 × av_H → Option β) : (av_cI (ev X (d + 2) 314 [vr (some 137), vi (nI t), vi (nI s)] h)).bind Kc = Kc (nI (bs (fun c => anyN F 0 (fun f => !(B c).testBit f)) C), h) := by rw [s_want w t6 hs hF F12 hC C10 hb]; rfl
theorem ci_lp (w : WF h) {t s C W NB b S : Nat} {v3 : Int32} (t6 : t < 6) (hs : s < 4) (hC : h.2.1 144 t = nI C) (C10 : C ≤ 10) (hW : h.2.1 148 t = nI W) (W4 : W ≤ 4) (hb : ∀ x, x < 10 → h.2.1 147 ((4 * t + s) * 10 + x) = bI (b.testBit x)) (hNB : NB < 2 ^ C) (hS : S < 2 ^ C) : ∀ n x, x + n = C → bd X (d + 2) 315 40 [(0, vr (some 137)), (1, vi (nI t)), (2, vi (nI s)), (3, vi v3), (4, vi (nI NB)), (5, vi (oI (fs (cvR C b W NB) S))), (6, vi (nI S)), (7, vi (nI (orM S W x))), (8, vi (bI (!anyN x 0 (fun x => S.testBit x && b.testBit x)))), (9, vi (nI x))] [] h = bd X (d + 2) 315 26 [(0, vr (some 137)), (1, vi (nI t)), (2, vi (nI s)), (3, vi v3), (4, vi (nI NB)), (5, vi (oI (fs (cvR C b W NB) (S + 1)))), (6, vi (nI (S + 1)))] [] h
  | 0, x, hx => by
    obtain rfl : x = C := by omega
    have nlt : NB < 2 ^ 10 := Nat.lt_of_lt_of_le hNB (Nat.pow_le_pow_right (by decide) C10)
    have slt : S < 2 ^ 10 := Nat.lt_of_lt_of_le hS (Nat.pow_le_pow_right (by decide) C10)
    have nN : nd NB (orM S W x) < 1024 := nd_lt (n := 10) nlt
    rw [b_315_40, gR_137_11 w, ld_144 w t6, hC, if_neg (nI_nlt (by omega) (by omega)), fs, cvR, nI_1]
    cases q : anyN x 0 (fun x => S.testBit x && b.testBit x) with
    | true => rw [Bool.not_true, if_pos (show bI false = 0 from rfl), Bool.false_and, Bool.false_and, if_neg (show ¬ false = true by decide)]
    | false =>
      rw [Bool.not_false, if_neg (show ¬ bI true = 0 by decide), Bool.true_and, nb_andn]
      by_cases z : nd NB (orM S W x) = 0
      · rw [if_pos (show nI (nd NB (orM S W x)) = 0 by rw [z]; rfl), decide_eq_true z, Bool.true_and]
        have b11 := bct_11 S slt
        cases y : fs (cvR x b W NB) S with
        | none => rw [if_pos (show oI none < 0 by decide), if_pos (show decide (bct S < fwN none) = true from decide_eq_true b11), oI_s]
        | some s' =>
          have s'l := fs_in S y
          have b12 : bct s' < 100 := Nat.lt_of_le_of_lt (fb_ct_le _ _) (by decide)
          rw [oI_s, if_neg (show ¬ nI s' < 0 from nI_pos (by omega)), nI_l (by omega), s_bits' (by omega), bct_48 (by omega), nI_l (by omega), s_bits' (by omega), bct_48 (by omega)]
          by_cases u : bct S < bct s'
          · rw [if_pos (nI_lt u (by omega)), if_pos (show decide (bct S < fwN (some s')) = true from decide_eq_true u), oI_s]
          · rw [if_neg (nI_nlt (by omega) (by omega)), if_neg (show ¬ decide (bct S < fwN (some s')) = true from fun y => u (of_decide_eq_true y)), oI_s]
      · rw [if_neg (nI_ne0 (by omega) (by omega)), decide_eq_false z, Bool.false_and, if_neg (show ¬ false = true by decide)]
  | n + 1, x, hx => by
    have ih := ci_lp w (v3 := v3) t6 hs hC C10 hW W4 hb hNB hS n (x + 1) (by omega)
    have slt : S < 2 ^ 10 := Nat.lt_of_lt_of_le hS (Nat.pow_le_pow_right (by decide) C10)
    have h1 : (2 : Nat) ^ W ≤ 2 ^ 4 := Nat.pow_le_pow_right (by decide) W4
    have h0 := Nat.two_pow_pos W
    have h2 : (2 : Nat) ^ x ≤ 2 ^ 9 := Nat.pow_le_pow_right (by decide) (by omega)
    have h3 : (2 ^ W - 1) * 2 ^ x ≤ 15 * 2 ^ 9 := Nat.mul_le_mul (by omega) h2
    rw [orM, anyN_snoc, Nat.zero_add] at ih
    rw [b_315_40, gR_137_11 w, ld_144 w t6, hC, if_pos (nI_lt (by omega) (by omega)), nb_bit (by omega) (by omega), nI_1]
    cases q : S.testBit x with
    | false =>
      rw [q, if_neg (show ¬ false = true by decide), Bool.false_and, Bool.or_false] at ih
      rw [if_neg (show ¬ bI false = 1 by decide)]
      exact ih
    | true =>
      rw [q, if_pos rfl, Bool.true_and] at ih
      rw [if_pos (show bI true = 1 from rfl)]
      have k66 : ∀ v : Bool, bd X (d + 2) 315 66 [(0, vr (some 137)), (1, vi (nI t)), (2, vi (nI s)), (3, vi v3), (4, vi (nI NB)), (5, vi (oI (fs (cvR C b W NB) S))), (6, vi (nI S)), (7, vi (nI (orM S W x))), (9, vi (nI x))] [vi (bI v)] h = bd X (d + 2) 315 40 [(0, vr (some 137)), (1, vi (nI t)), (2, vi (nI s)), (3, vi v3), (4, vi (nI NB)), (5, vi (oI (fs (cvR C b W NB) S))), (6, vi (nI S)), (7, vi (nI (orM S W x ||| (2 ^ W - 1) * 2 ^ x))), (8, vi (bI v)), (9, vi (nI (x + 1)))] [] h := fun v => by
        rw [b_315_66, gR_137_15 w, ld_148 w t6, hW, nb_sh1 W (by omega), nI_prd h0, nb_shl (by omega) (by omega), nb_or, nI_1]
      cases y : anyN x 0 (fun x => S.testBit x && b.testBit x) with
      | true =>
        rw [y, Bool.true_or, Bool.not_true] at ih
        rw [Bool.not_true, if_pos (show bI false = 0 from rfl), b_315_65]
        exact (k66 false).trans ih
      | false =>
        rw [y, Bool.false_or] at ih
        rw [Bool.not_false, if_neg (show ¬ bI true = 0 by decide), gR_137_14 w, s_stopOf', ld_147 w (by omega), hb x (by omega)]
        cases z : b.testBit x with
        | false =>
          rw [z, Bool.not_false] at ih
          rw [if_pos (show bI false = 0 from rfl)]
          exact (k66 true).trans ih
        | true =>
          rw [z, Bool.not_true] at ih
          rw [if_neg (show ¬ bI true = 0 by decide), b_315_65]
          exact (k66 false).trans ih
theorem co_lp (w : WF h) {t s C W NB b : Nat} {v3 : Int32} (t6 : t < 6) (hs : s < 4) (hC : h.2.1 144 t = nI C) (C10 : C ≤ 10) (hW : h.2.1 148 t = nI W) (W4 : W ≤ 4) (hb : ∀ x, x < 10 → h.2.1 147 ((4 * t + s) * 10 + x) = bI (b.testBit x)) (hNB : NB < 2 ^ C) : ∀ n S, S + n = 2 ^ C → bd X (d + 2) 315 26 [(0, vr (some 137)), (1, vi (nI t)), (2, vi (nI s)), (3, vi v3), (4, vi (nI NB)), (5, vi (oI (fs (cvR C b W NB) S))), (6, vi (nI S))] [] h = av_rI (if fs (cvR C b W NB) (2 ^ C) = none then -1 else if v3 = 0 then nI (bct ((fs (cvR C b W NB) (2 ^ C)).getD 0)) else oI (fs (cvR C b W NB) (2 ^ C))) h
  | 0, S, hS => by
    obtain rfl : S = 2 ^ C := by omega
    have slt : 2 ^ C ≤ 2 ^ 10 := Nat.pow_le_pow_right (by decide) C10
    rw [b_315_26, gR_137_11 w, ld_144 w t6, hC, nb_sh1 C (by omega), if_neg (nI_nlt (by omega) (by omega))]
    cases y : fs (cvR C b W NB) (2 ^ C) with
    | none => rw [if_pos (show oI none < 0 by decide), if_pos rfl]
    | some s' =>
      have s'l := fs_in _ y
      rw [oI_s, if_neg (show ¬ nI s' < 0 from nI_pos (by omega)), if_neg (show ¬ some s' = none by intro z; cases z)]
      by_cases z : v3 = 0
      · rw [if_pos z, if_pos z, nI_l (by omega), s_bits' (by omega), bct_48 (by omega)]
        rfl
      · rw [if_neg z, if_neg z]
  | n + 1, S, hS => by
    have slt : 2 ^ C ≤ 2 ^ 10 := Nat.pow_le_pow_right (by decide) C10
    have ih := co_lp w (v3 := v3) t6 hs hC C10 hW W4 hb hNB n (S + 1) (by omega)
    have st := ci_lp (X := X) (d := d) w (v3 := v3) t6 hs hC C10 hW W4 hb hNB (show S < 2 ^ C by omega) C 0 (by omega)
    rw [b_315_26, gR_137_11 w, ld_144 w t6, hC, nb_sh1 C (by omega), if_pos (nI_lt (by omega) (by omega))]
    exact st.trans ih
theorem cover_ok (w : WF h) (J : J_tow h) (t s q : Int32) : ∃ v h1 h2, ev X (d + 6) 147 [vr (some 0), vi t, vi s, vi q] h = av_rI v h1 ∧ ev X (d + 6) 315 [vr (some 137), vi t, vi s, vi q] h1 = av_rI v h2 ∧ WF h2 ∧ off false [] [(137, 0)] h h2 := by
  have wt : WF (th h) := w
  have tt : told (th h) t = told h t := by simp only [told, th_I (show 143 ≠ 137 by decide)]
  have fin : off false [] [(137, 0)] h (th h) := agr.uI rfl agr.rfl
  cases q1 : told h t with
  | false =>
    refine ⟨-1, h, th h, ?_, ?_, w, fin⟩
    · rw [e_147, b_147_0, is_0 w, c_isTold' w J, q1, if_pos (show bI false = 0 from rfl)]
    · rw [e_315, b_315_0, pI_137 w, th_e, is_137 wt, s_isTower' wt, tt, q1, if_pos (show bI false = 0 from rfl)]
  | true =>
    cases q2 : rg s 0 3 with
    | false =>
      refine ⟨-1, h, th h, ?_, ?_, w, fin⟩
      · rw [e_147, b_147_0, is_0 w, c_isTold' w J, q1, if_neg (show ¬ bI true = 0 by decide), c_isSide', q2, if_pos (show bI false = 0 from rfl)]
      · rw [e_315, b_315_0, pI_137 w, th_e, is_137 wt, s_isTower' wt, tt, q1, if_neg (show ¬ bI true = 0 by decide), s_isSide', q2, if_pos (show bI false = 0 from rfl)]
    | true =>
      cases q3 : rg q 0 1 with
      | false =>
        refine ⟨-1, h, th h, ?_, ?_, w, fin⟩
        · rw [e_147, b_147_0, is_0 w, c_isTold' w J, q1, if_neg (show ¬ bI true = 0 by decide), c_isSide', q2, if_neg (show ¬ bI true = 0 by decide), c_within', tI_0, tI_1, q3, if_pos (show bI false = 0 from rfl)]
        · rw [e_315, b_315_0, pI_137 w, th_e, is_137 wt, s_isTower' wt, tt, q1, if_neg (show ¬ bI true = 0 by decide), s_isSide', q2, if_neg (show ¬ bI true = 0 by decide), s_within', tI_0, tI_1, q3, if_pos (show bI false = 0 from rfl)]
      | true =>
        obtain ⟨t, a, h6, rfl, hj, T⟩ := told_ex J q1
        obtain ⟨s, hs, rfl⟩ := rg_nI (b := 3) (by decide) q2
        have hs4 : s < 4 := by omega
        obtain ⟨F, C, W, L, V, p1, p2, p3, p4, p5, p6, p7, p8, p9, r1, r2, r3, r4, r5, r6, r7, r8, r9, r10⟩ := T.2.2.2.2.2.2.1
        have T0 := T
        obtain ⟨a226, k1, k2, k3, x5, x6, -⟩ := T
        obtain ⟨sb1, sb2, sb3⟩ := T0.sht hs4
        have B1 : ∀ c, c < 10 → h.2.1 (a + 1) (s * 10 + c) = nI (blkN h a s c) := fun c hc => (T0.blk hs4 hc).2.1
        have B2 : ∀ c, c < 10 → ∀ f, f < 12 → (th h).2.1 145 (((4 * t + s) * 12 + f) * 10 + c) = bI ((blkN h a s c).testBit f) := fun c hc f hf => by
          rw [th_I (by decide)]
          exact (T0.blk hs4 hc).2.2 f hf
        have B3 : ∀ x, x < 10 → (th h).2.1 147 ((4 * t + s) * 10 + x) = bI ((shtN h a s).testBit x) := fun x hx => by
          rw [th_I (by decide)]
          exact sb3 x hx
        have eN : bs (fun c => !decide (frM F (blkN h a s c) = 0)) C = bs (fun c => anyN F 0 (fun f => !(blkN h a s c).testBit f)) C := bs_cg C (fun c _ => by
          rw [Bool.eq_iff_iff, Bool.not_eq_true', decide_eq_false_iff_not, anyN_iff]
          constructor
          · intro z
            obtain ⟨i, hi⟩ := Nat.exists_testBit_of_ne_zero z
            rw [frM_bit, Bool.and_eq_true, decide_eq_true_eq] at hi
            exact ⟨i, by omega, by omega, hi.2⟩
          · rintro ⟨i, -, hi, y⟩ z
            have e := frM_bit (F := F) (b := blkN h a s c) (f := i)
            rw [z, Nat.zero_testBit, y, decide_eq_true (show i < F by omega)] at e
            cases e)
        have NB := bs_lt (P := fun c => !decide (frM F (blkN h a s c) = 0)) C
        have lt := frC_lt (b := shtN h a s) p4
        have fle : frM C (shtN h a s) + 1 ≤ 2 ^ C := by
          have y : frM C (shtN h a s) < 2 ^ C := nd_lt (by have := Nat.two_pow_pos C; omega)
          omega
        have slt : 2 ^ C ≤ 2 ^ 10 := Nat.pow_le_pow_right (by decide) p4
        have few := c_few (X := X) (d := d + 1) (h := h) k1 k2 k3 x5 x6 hs4 r3 p4 B1 sb2 r1 p2 r5 p6
        have lp := co_lp (X := X) (d := d + 3) (h := th h) (v3 := q) wt h6 hs4 (by rw [th_I (by decide)]; exact r4) p4 (by rw [th_I (by decide)]; exact r6) p6 B3 NB (2 ^ C) 0 (by omega)
        have ef : fs (cvR C (shtN h a s) W (bs (fun c => !decide (frM F (blkN h a s c) = 0)) C)) (2 ^ C) = fs (cvC C (shtN h a s) W (bs (fun c => !decide (frM F (blkN h a s c) = 0)) C)) (frM C (shtN h a s) + 1) := by
          rw [← fs_cg (P := cvC C (shtN h a s) W (bs (fun c => !decide (frM F (blkN h a s c) = 0)) C)) (2 ^ C) (fun i hi => cv_CR hi NB), show 2 ^ C = (frM C (shtN h a s) + 1) + (2 ^ C - (frM C (shtN h a s) + 1)) by omega, fs_st _ (fun i hi => cvC_le (by omega))]
        rw [ef] at lp
        have sub : ∀ z, fs (cvC C (shtN h a s) W (bs (fun c => !decide (frM F (blkN h a s c) = 0)) C)) (frM C (shtN h a s) + 1) = some z → z < 1024 := fun z y => by
          have := fs_in _ y
          omega
        generalize fs (cvC C (shtN h a s) W (bs (fun c => !decide (frM F (blkN h a s c) = 0)) C)) (frM C (shtN h a s) + 1) = f at few lp sub
        refine ⟨if f = none then -1 else if q = 0 then nI (bct (f.getD 0)) else oI f, h, th h, ?_, ?_, w, fin⟩
        · rw [e_147, b_147_0, is_0 w, c_isTold' w J, q1, if_neg (show ¬ bI true = 0 by decide), c_isSide', q2, if_neg (show ¬ bI true = 0 by decide), c_within', tI_0, tI_1, q3, if_neg (show ¬ bI true = 0 by decide), gR_0_0 w, ld1v w h6 hj, tw_is k1, few, av_cI_r, Option.bind_some]
          cases f with
          | none => rw [if_pos (show oI none = -1 from rfl), if_pos rfl]
          | some z =>
            have zl := sub z rfl
            have n1 : ¬ oI (some z) = -1 := fun y => by
              have := congrArg Int32.toInt y
              rw [oI_s, toI_nI (by omega), show (-1 : Int32).toInt = -1 from rfl] at this
              omega
            rw [if_neg n1, if_neg (show ¬ some z = none by intro y; cases y), oI_s]
            by_cases y : q = 0
            · rw [if_pos y, if_pos y, c_bc32' (by omega)]
              rfl
            · rw [if_neg y, if_neg y]
        · rw [e_315, b_315_0, pI_137 w, th_e, is_137 wt, s_isTower' wt, tt, q1, if_neg (show ¬ bI true = 0 by decide), s_isSide', q2, if_neg (show ¬ bI true = 0 by decide), s_within', tI_0, tI_1, q3, if_neg (show ¬ bI true = 0 by decide), is_137 wt, s_want' wt h6 hs4 (by rw [th_I (by decide)]; exact r2) p2 (by rw [th_I (by decide)]; exact r4) p4 B2, ← eN]
          exact lp
end
