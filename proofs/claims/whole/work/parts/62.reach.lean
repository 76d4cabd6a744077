/-! reach -/
theorem anyN_snoc {P : Nat → Bool} : ∀ n i, anyN (n + 1) i P = (anyN n i P || P (i + n))
  | 0, i => by simp [anyN]
  | n + 1, i => by
    rw [anyN, anyN_snoc n (i + 1), anyN, Bool.or_assoc, show i + 1 + n = i + (n + 1) by omega]
/-- the nests: their panes as numbers -/
def neN (h : av_H) (i : Nat) : Nat := (h.2.1 151 i).toNatClampNeg
def neC (h : av_H) (m : Nat) (q : Nat → Nat) : Prop := h.2.1 3 5 = nI m ∧ ∀ i, i < m → h.2.1 4 i = nI ((q i / 120 * 10 + q i % 10) * 12 + q i / 10 % 12) ∧ h.2.1 7 i = 0 ∧ h.2.1 8 i = nI 23
def neQ (h : av_H) (m : Nat) (q : Nat → Nat) : Prop := h.2.1 137 18 = nI m ∧ ∀ i, i < m → h.2.1 151 i = nI (q i)
def neB (m : Nat) (q : Nat → Nat) : Prop := m ≤ 20 ∧ ∀ i, i < m → q i < 2880
/-- the days of the nests are alike -/
def neD (h g : av_H) (m : Nat) : Prop := ∀ i, i < m → h.2.1 5 i = g.2.1 152 i ∧ h.2.1 6 i = g.2.1 153 i
theorem J_ne.E {h : av_H} (J : J_ne h) : ∃ m q, neB m q ∧ neC h m q ∧ neQ h m q ∧ neD h h m := by
  obtain ⟨m, h1, h2, h3, h4⟩ := J
  refine ⟨m, neN h, ⟨h1, fun i hi => ?_⟩, ⟨h2, fun i hi => ?_⟩, ⟨h3, fun i hi => ?_⟩, fun i hi => ?_⟩
  all_goals
    obtain ⟨⟨t, s, f, c, b1, b2, b3, b4, e1, e2⟩, e3, e4, e5, e6⟩ := h4 i hi
    have en : neN h i = ((4 * t + s) * 12 + f) * 10 + c := by rw [neN, e2, nI_clamp (by omega)]
  · rw [en]
    omega
  · refine ⟨?_, e5, e6⟩
    rw [en, e1]
    congr 1
    omega
  · rw [en, e2]
  · exact ⟨e3.symm, e4.symm⟩
def neP (h : av_H) (q : Nat → Nat) (P : Nat) (e : Int32) (i : Nat) : Bool := decide (q i = P) && rg e (h.2.1 152 i).toInt (h.2.1 153 i).toInt
/-- the floors of a column with nests -/
def flo (h : av_H) (q : Nat → Nat) (col : Nat) (e : Int32) : Nat → Nat
  | 0 => 0
  | n + 1 => if q n / 120 * 10 + q n % 10 = col ∧ rg e (h.2.1 5 n).toInt (h.2.1 6 n).toInt = true then flo h q col e n ||| 2 ^ (q n / 10 % 12) else flo h q col e n
theorem flo_lt {h : av_H} {q : Nat → Nat} {col : Nat} {e : Int32} : ∀ n, flo h q col e n < 4096
  | 0 => by simp [flo]
  | n + 1 => by
    rw [flo]
    split
    · exact Nat.or_lt_two_pow (n := 12) (flo_lt n) (Nat.pow_lt_pow_right (by decide) (Nat.mod_lt _ (by decide)))
    · exact flo_lt n
theorem flo_bit {h g : av_H} {q : Nat → Nat} {ts f c m : Nat} {e : Int32} (hf : f < 12) (hc : c < 10) (Q : neD h g m) : ∀ n, n ≤ m → (flo h q (ts * 10 + c) e n).testBit f = anyN n 0 (neP g q ((ts * 12 + f) * 10 + c) e)
  | 0, _ => by simp [flo, anyN]
  | n + 1, hn => by
    obtain ⟨q1, q2⟩ := Q n (by omega)
    rw [flo, anyN_snoc, ← flo_bit hf hc Q n (by omega), Nat.zero_add, neP, ← q1, ← q2]
    cases q3 : rg e (h.2.1 5 n).toInt (h.2.1 6 n).toInt with
    | false => rw [if_neg (by simp), Bool.and_false, Bool.or_false]
    | true =>
      rw [Bool.and_true]
      by_cases z : q n / 120 * 10 + q n % 10 = ts * 10 + c
      · rw [if_pos ⟨z, rfl⟩, Nat.testBit_or, Nat.testBit_two_pow]
        congr 1
        by_cases z2 : q n / 10 % 12 = f
        · rw [decide_eq_true z2, decide_eq_true (by omega)]
        · rw [decide_eq_false z2, decide_eq_false (by omega)]
      · rw [if_neg (fun y => z y.1), decide_eq_false (by omega), Bool.or_false]
theorem shlL1 : ∀ k, k < 48 → (1 : Int64) <<< ((nI k).toInt64 &&& 63) = lN (2 ^ k) := by decide +kernel
theorem sm64 : ∀ k, k < 64 → (BitVec.ofNat 64 k).smod 64 = BitVec.ofNat 64 k := by decide +kernel
theorem shlL (n : Nat) {k : Nat} (hk : k < 64) : lN n <<< ((nI k).toInt64 &&& 63) = lN (n * 2 ^ k) := by
  rw [sar_c k hk]
  apply Int64.toBitVec_inj.mp
  rw [Int64.toBitVec_shiftLeft, lN_tb, lN_tb, lN_tb, sm64 k hk]
  apply BitVec.eq_of_toNat_eq
  rw [BitVec.shiftLeft_eq', BitVec.toNat_shiftLeft, BitVec.toNat_ofNat, BitVec.toNat_ofNat, BitVec.toNat_ofNat, Nat.mod_eq_of_lt (show k < 2 ^ 64 by omega), Nat.shiftLeft_eq, Nat.mul_mod, Nat.mod_mod, ← Nat.mul_mod]
/-- the panes of columns laid side by side -/
def rp (Q : Nat → Nat) : Nat → Nat
  | 0 => 0
  | k + 1 => rp Q k ||| Q k * 2 ^ (k * 12)
theorem rp_bit {Q : Nat → Nat} (h : ∀ k, Q k < 4096) {c f : Nat} (hf : f < 12) : ∀ n, (rp Q n).testBit (12 * c + f) = (decide (c < n) && (Q c).testBit f)
  | 0 => by simp [rp]
  | n + 1 => by
    rw [rp, Nat.testBit_or, rp_bit h hf n, Nat.testBit_mul_two_pow]
    rcases Nat.lt_trichotomy c n with z | z | z
    · rw [decide_eq_true z, decide_eq_true (show c < n + 1 by omega), decide_eq_false (show ¬ n * 12 ≤ 12 * c + f by omega), Bool.false_and, Bool.or_false]
    · subst z
      rw [decide_eq_false (show ¬ c < c by omega), Bool.false_and, Bool.false_or, decide_eq_true (show c < c + 1 by omega), decide_eq_true (show c * 12 ≤ 12 * c + f by omega), show 12 * c + f - c * 12 = f by omega]
    · rw [decide_eq_false (show ¬ c < n by omega), Bool.false_and, Bool.false_or, decide_eq_false (show ¬ c < n + 1 by omega), Bool.false_and]
      rw [Nat.testBit_lt_two_pow (Nat.lt_of_lt_of_le (h n) (show (4096 : Nat) ≤ 2 ^ (12 * c + f - n * 12) from Nat.pow_le_pow_right (n := 2) (i := 12) (by decide) (by omega))), Bool.and_false]
theorem rp_lt {Q : Nat → Nat} (h : ∀ k, Q k < 4096) : ∀ n, rp Q n < 2 ^ (12 * n)
  | 0 => by simp [rp]
  | n + 1 => by
    have h1 := rp_lt h n
    have h2 : (2 : Nat) ^ (12 * n) ≤ 2 ^ (12 * (n + 1)) := Nat.pow_le_pow_right (by decide) (by omega)
    refine Nat.or_lt_two_pow (by omega) ?_
    rw [show 12 * (n + 1) = 12 + n * 12 by omega, Nat.pow_add]
    exact Nat.mul_lt_mul_of_pos_right (h n) (Nat.two_pow_pos _)
/-- the panes laid floor by floor -/
def ri (P : Nat → Nat → Bool) (A f : Nat) : Nat → Nat
  | 0 => A
  | i + 1 => if P f i = true then ri P A f i ||| 2 ^ (4 * f + i) else ri P A f i
def ro (P : Nat → Nat → Bool) (K : Nat) : Nat → Nat
  | 0 => 0
  | f + 1 => ri P (ro P K f) f K
theorem ri_bit {P : Nat → Nat → Bool} {A f j : Nat} : ∀ n, (ri P A f n).testBit j = (A.testBit j || (decide (4 * f ≤ j ∧ j < 4 * f + n) && P f (j - 4 * f)))
  | 0 => by
    rw [ri, decide_eq_false (by omega), Bool.false_and, Bool.or_false]
  | n + 1 => by
    have key : (decide (4 * f ≤ j ∧ j < 4 * f + (n + 1)) && P f (j - 4 * f)) = ((decide (4 * f ≤ j ∧ j < 4 * f + n) && P f (j - 4 * f)) || (decide (4 * f + n = j) && P f n)) := by
      by_cases z : 4 * f + n = j
      · subst z
        rw [decide_eq_true (show 4 * f ≤ 4 * f + n ∧ 4 * f + n < 4 * f + (n + 1) by omega), decide_eq_false (show ¬ (4 * f ≤ 4 * f + n ∧ 4 * f + n < 4 * f + n) by omega), decide_eq_true rfl, show 4 * f + n - 4 * f = n by omega, Bool.false_and, Bool.false_or]
      · rw [decide_eq_false z, Bool.false_and, Bool.or_false]
        congr 1
        exact decide_eq_decide.mpr (by omega)
    rw [key, ← Bool.or_assoc, ← ri_bit n, ri]
    cases q : P f n with
    | false => rw [if_neg (by decide), Bool.and_false, Bool.or_false]
    | true => rw [if_pos rfl, Nat.testBit_or, Nat.testBit_two_pow, Bool.and_true]
theorem ro_bit {P : Nat → Nat → Bool} {K f c : Nat} (hK : K ≤ 4) (hc : c < 4) : ∀ n, (ro P K n).testBit (4 * f + c) = (decide (f < n) && (decide (c < K) && P f c))
  | 0 => by simp [ro]
  | n + 1 => by
    rw [ro, ri_bit, ro_bit hK hc n]
    rcases Nat.lt_trichotomy f n with z | z | z
    · rw [decide_eq_true z, decide_eq_true (show f < n + 1 by omega), decide_eq_false (show ¬ (4 * n ≤ 4 * f + c ∧ 4 * f + c < 4 * n + K) by omega), Bool.false_and, Bool.or_false]
    · subst z
      rw [decide_eq_false (show ¬ f < f by omega), Bool.false_and, Bool.false_or, decide_eq_true (show f < f + 1 by omega), Bool.true_and, show 4 * f + c - 4 * f = c by omega]
      congr 1
      exact decide_eq_decide.mpr (by omega)
    · rw [decide_eq_false (show ¬ f < n by omega), Bool.false_and, Bool.false_or, decide_eq_false (show ¬ f < n + 1 by omega), Bool.false_and, decide_eq_false (show ¬ (4 * n ≤ 4 * f + c ∧ 4 * f + c < 4 * n + K) by omega), Bool.false_and]
theorem ri_lt {P : Nat → Nat → Bool} {A f K : Nat} (hK : K ≤ 4) (hA : A < 2 ^ (4 * (f + 1))) : ∀ n, n ≤ K → ri P A f n < 2 ^ (4 * (f + 1))
  | 0, _ => hA
  | n + 1, hn => by
    rw [ri]
    split
    · exact Nat.or_lt_two_pow (ri_lt hK hA n (by omega)) (Nat.pow_lt_pow_right (by decide) (by omega))
    · exact ri_lt hK hA n (by omega)
theorem ro_lt {P : Nat → Nat → Bool} {K : Nat} (hK : K ≤ 4) : ∀ n, ro P K n < 2 ^ (4 * n)
  | 0 => by simp [ro]
  | n + 1 => ri_lt hK (Nat.lt_of_lt_of_le (ro_lt hK n) (Nat.pow_le_pow_right (by decide) (by omega))) K (Nat.le_refl K)
theorem bits_eq2 {M N : Nat} (bM : M < 2 ^ 48) (bb : ∀ c, c < 4 → ∀ f, f < 12 → M.testBit (12 * c + f) = N.testBit (4 * f + c)) : fb_ct (fun i => N.testBit i) 48 = bct M := by
  rw [bct, ct_big bM (by decide), ct48 (fun i => M.testBit i)]
  have e := (fb_ct_cong (p := fun i => N.testBit i) (q := fun i => N.testBit (4 * (i / 4) + i % 4)) (n := 4 * 12) (fun i _ => by rw [show 4 * (i / 4) + i % 4 = i by omega])).trans (ct4 (fun c f => N.testBit (4 * f + c)) 12)
  rw [show (48 : Nat) = 4 * 12 from rfl, e]
  congr 1
  · congr 1
    · congr 1
      · exact fb_ct_cong fun f hf => (bb 0 (by decide) f hf).symm
      · exact fb_ct_cong fun f hf => (bb 1 (by decide) f hf).symm
    · exact fb_ct_cong fun f hf => (bb 2 (by decide) f hf).symm
  · exact fb_ct_cong fun f hf => (bb 3 (by decide) f hf).symm
section
variable {X : av_X} {d : Nat} {h : av_H}
theorem hasN_lp (w : WF h) {m : Nat} {q : Nat → Nat} (Nb : neB m q) (Q : neQ h m q) {P : Nat} (hP : P < 2880) (e : Int32) : ∀ n i b, i + n = m → bd X (d + 1) 272 4 [(0, vr (some 137)), (1, vi (nI P)), (2, vi e), (3, vi (bI b)), (4, vi (nI i))] [] h = av_rI (bI (b || anyN n i (neP h q P e))) h
  | 0, i, b, hi => by
    have h20 := Nb.1
    rw [b_272_4, gIv_137_18 w Q.1, if_neg (nI_nlt (by omega) (by omega)), zb_b, anyN, Bool.or_false]
  | n + 1, i, b, hi => by
    have i0 := hasN_lp w Nb Q hP e n (i + 1) false (by omega)
    have i1 := hasN_lp w Nb Q hP e n (i + 1) true (by omega)
    rw [bI_f, Bool.false_or] at i0
    rw [bI_t, Bool.true_or, bI_t] at i1
    have h20 := Nb.1
    have q2 := Nb.2 i (by omega)
    have e1 := Q.2 i (by omega)
    rw [b_272_4, gIv_137_18 w Q.1, if_pos (nI_lt (by omega) (by omega)), nI_1, i0, i1, anyN, neP]
    cases b with
    | true =>
      rw [if_neg (show ¬ bI true = 0 by decide), Bool.true_or]
      rfl
    | false =>
      rw [if_pos (show bI false = 0 from rfl), gR_137_19 w, ld_151 w (by omega), e1, Bool.false_or]
      by_cases z : q i = P
      · rw [if_pos (congrArg nI z), gR_137_20 w, ld_152 w (by omega), gR_137_21 w, ld_153 w (by omega), s_within', decide_eq_true z, Bool.true_and]
        cases rg e (h.2.1 152 i).toInt (h.2.1 153 i).toInt with
        | false =>
          rw [if_pos (show bI false = 0 from rfl), Bool.false_or]
          exact i0
        | true =>
          rw [if_neg (show ¬ bI true = 0 by decide), Bool.true_or]
          exact i1
      · rw [if_neg (fun y => z ((nI_eq (by omega) (by omega)).mp y)), decide_eq_false z, Bool.false_and, Bool.false_or]
theorem s_hasN {m P : Nat} {q : Nat → Nat} (w : WF h) (Nb : neB m q) (Q : neQ h m q) (hP : P < 2880) (e : Int32) : ev X (d + 2) 272 [vr (some 137), vi (nI P), vi e] h = av_rI (bI (anyN m 0 (neP h q P e))) h := by
  rw [e_272, b_272_0]
  have := hasN_lp (X := X) (d := d) w Nb Q hP e m 0 false (by omega)
  rw [Bool.false_or] at this
  exact this
theorem s_hasN' {m P : Nat} {q : Nat → Nat} (w : WF h) (Nb : neB m q) (Q : neQ h m q) (hP : P < 2880) (e : Int32) {β : Type} (Kc : Int32 × av_H → Option β) : (av_cI (ev X (d + 2) 272 [vr (some 137), vi (nI P), vi e] h)).bind Kc = Kc (bI (anyN m 0 (neP h q P e)), h) := by rw [s_hasN w Nb Q hP e]; rfl
theorem flo_lp (w : WF h) {m : Nat} {q : Nat → Nat} (Nb : neB m q) (Q : neC h m q) {col : Nat} (hc : col < 10000) (e : Int32) : ∀ n i, i + n = m → bd X (d + 2) 114 4 [(0, vr (some 3)), (1, vi (nI col)), (2, vi e), (3, vi (nI (flo h q col e i))), (4, vi (nI i))] [] h = av_rI (nI (flo h q col e m)) h
  | 0, i, hi => by
    have h20 := Nb.1
    obtain rfl : i = m := by omega
    rw [b_114_4, gIv_3_5 w Q.1, if_neg (nI_nlt (by omega) (by omega))]
  | n + 1, i, hi => by
    have ih := flo_lp w Nb Q hc e n (i + 1) (by omega)
    have h20 := Nb.1
    have q2 := Nb.2 i (by omega)
    obtain ⟨e1, -, -⟩ := Q.2 i (by omega)
    have v1 : ((q i / 120 * 10 + q i % 10) * 12 + q i / 10 % 12) / 12 = q i / 120 * 10 + q i % 10 := by omega
    have v2 : ((q i / 120 * 10 + q i % 10) * 12 + q i / 10 % 12) % 12 = q i / 10 % 12 := by omega
    rw [flo] at ih
    rw [b_114_4, gIv_3_5 w Q.1, if_pos (nI_lt (by omega) (by omega)), gR_3_0 w, ld_4 w (by omega), e1, if_neg (by decide), lit_12, pk_div (by omega) (by omega) (by omega), v1, nI_1]
    by_cases z : q i / 120 * 10 + q i % 10 = col
    · rw [if_pos (congrArg nI z), is_3 w, isOn_3' w (by omega)]
      cases q3 : rg e (h.2.1 5 i).toInt (h.2.1 6 i).toInt with
      | false =>
        rw [if_neg (by simp [q3])] at ih
        rw [if_pos (show bI false = 0 from rfl)]
        exact ih
      | true =>
        rw [if_pos ⟨z, q3⟩] at ih
        have v3 : nI ((q i / 120 * 10 + q i % 10) * 12 + q i / 10 % 12) - nI (q i / 120 * 10 + q i % 10) * nI 12 = nI (q i / 10 % 12) := by
          rw [pk_mul, pk_sub (by omega)]
          congr 1
          omega
        rw [if_neg (show ¬ bI true = 0 by decide), gR_3_0 w, ld_4 w (by omega), e1, if_neg (by decide), pk_div (by omega) (by omega) (by omega), v1, v3, nb_sh1 _ (by omega), nb_or]
        exact ih
    · rw [if_neg (fun y => z y.1)] at ih
      rw [if_neg (fun y => z ((nI_eq (by omega) (by omega)).mp y))]
      exact ih
theorem c_flo {m col : Nat} {q : Nat → Nat} (w : WF h) (Nb : neB m q) (Q : neC h m q) (hc : col < 10000) (e : Int32) : ev X (d + 3) 114 [vr (some 3), vi (nI col), vi e] h = av_rI (nI (flo h q col e m)) h := by
  rw [e_114, b_114_0]
  exact flo_lp w Nb Q hc e m 0 (by omega)
theorem c_flo' {m col : Nat} {q : Nat → Nat} (w : WF h) (Nb : neB m q) (Q : neC h m q) (hc : col < 10000) (e : Int32) {β : Type} (Kc : Int32 × av_H → Option β) : (av_cI (ev X (d + 3) 114 [vr (some 3), vi (nI col), vi e] h)).bind Kc = Kc (nI (flo h q col e m), h) := by rw [c_flo w Nb Q hc e]; rfl
theorem bits_lp {N : Nat} (hN : N < 2 ^ 62) : ∀ n k, k + n = 48 → bd X d 288 4 [(0, vl (lN N)), (2, vi (nI (fb_ct (fun i => N.testBit i) k))), (3, vi (nI k))] [] h = av_rI (nI (fb_ct (fun i => N.testBit i) 48)) h
  | 0, k, hk => by
    obtain rfl : k = 48 := by omega
    rw [b_288_4, if_neg (by decide)]
  | n + 1, k, hk => by
    have ih := bits_lp hN n (k + 1) (by omega)
    rw [fb_ct_succ] at ih
    have e : nI (if N.testBit k = true then 1 else 0) = nI (N / 2 ^ k % 2) := by
      rw [Nat.testBit_eq_decide_div_mod_eq]
      rcases Nat.mod_two_eq_zero_or_one (N / 2 ^ k) with z | z <;> rw [z] <;> rfl
    rw [b_288_4, if_pos (show nI k < (48 : Int32) from nI_lt (b := 48) (by omega) (by omega)), sar64 hN (by omega), and1L, lN_t, ← e, nI_add, nI_1]
    exact ih
theorem s_bits {N : Nat} (hN : N < 2 ^ 62) : ev X (d + 1) 288 [vl (lN N)] h = av_rI (nI (fb_ct (fun i => N.testBit i) 48)) h := by
  rw [e_288, b_288_0]
  exact bits_lp hN 48 0 (by omega)
theorem s_bits' {N : Nat} (hN : N < 2 ^ 62) {β : Type} (Kc : Int32 × av_H → Option β) : (av_cI (ev X (d + 1) 288 [vl (lN N)] h)).bind Kc = Kc (nI (fb_ct (fun i => N.testBit i) 48), h) := by rw [s_bits hN]; rfl
/-- column k of the panes that a drop from stop x reaches -/
def rcQ (h : av_H) (m : Nat) (q : Nat → Nat) (F a ts s x : Nat) (e : Int32) (k : Nat) : Nat := nd (frM F (blkN h a s (x + k))) (flo h q (ts * 10 + (x + k)) e m)
theorem rcQ_lt {m F a ts s x k : Nat} {q : Nat → Nat} {e : Int32} (hF : F ≤ 12) : rcQ h m q F a ts s x e k < 4096 := nd_lt (n := 12) (frM_lt hF)
theorem rp_lp (w : WF h) {m : Nat} {q : Nat → Nat} (Nb : neB m q) (Q : neC h m q) {t s x a F C W : Nat} (h6 : t < 6) (hs : s < 4) (hx : x < C) (T : twV h t a) (hF : h.2.1 a 0 = nI F) (F12 : F ≤ 12) (hC : h.2.1 a 1 = nI C) (C10 : C ≤ 10) (hW : h.2.1 a 2 = nI W) (W4 : W ≤ 4) (e : Int32) : ∀ n k, k + n = min W (C - x) → bd X (d + 3) 202 9 [(0, vr (some 0)), (1, vi (nI t)), (2, vi (nI s)), (3, vi (nI x)), (4, vi e), (5, vr (some a)), (6, vl (lN (rp (rcQ h m q F a (t * 4 + s) s x e) k))), (8, vi (nI k))] [] h = av_rL (lN (rp (rcQ h m q F a (t * 4 + s) s x e) (min W (C - x)))) h
  | 0, k, hk => by
    obtain ⟨b0, k1, k2, k3, r5, r6, -⟩ := T
    rw [b_202_9, tw_gIv k1 hW, tw_gIv k1 hC]
    have ek : k = min W (C - x) := by omega
    by_cases z : k < W
    · rw [if_pos (nI_lt z (by omega)), nI_add, if_neg (nI_nlt (by omega) (by omega)), ek]
    · rw [if_neg (nI_nlt (by omega) (by omega)), ek]
  | n + 1, k, hk => by
    have ih := rp_lp w Nb Q h6 hs hx T hF F12 hC C10 hW W4 e n (k + 1) (by omega)
    obtain ⟨b1, b2, b3⟩ := T.blk hs (show x + k < 10 by omega)
    obtain ⟨b0, k1, k2, k3, r5, r6, -⟩ := T
    have lq := rcQ_lt (h := h) (m := m) (q := q) (a := a) (ts := t * 4 + s) (s := s) (x := x) (k := k) (e := e) F12
    rw [rp, rcQ] at ih
    rw [rcQ] at lq
    rw [b_202_9, tw_gIv k1 hW, if_pos (nI_lt (by omega) (by omega)), tw_gIv k1 hC, nI_add, if_pos (nI_lt (by omega) (by omega)), gR_0_2 w, c_colP', is_3 w, c_flo' w Nb Q (by omega), tw_is k1, c_freeF' k1 k2 r5 hs (by omega) b2 hF F12, nb_andn, nI_l (by omega), lit_12, pk_mul, shlL _ (by omega), fb_orL, nI_1]
    exact ih
theorem c_rP {m t s x a F C W : Nat} {q : Nat → Nat} (w : WF h) (Nb : neB m q) (Q : neC h m q) (h6 : t < 6) (hs : s < 4) (hx : x < C) (ht : h.2.2.2 1 t = some a) (T : twV h t a) (hF : h.2.1 a 0 = nI F) (F12 : F ≤ 12) (hC : h.2.1 a 1 = nI C) (C10 : C ≤ 10) (hW : h.2.1 a 2 = nI W) (W4 : W ≤ 4) (e : Int32) : ev X (d + 4) 202 [vr (some 0), vi (nI t), vi (nI s), vi (nI x), vi e] h = av_rL (lN (rp (rcQ h m q F a (t * 4 + s) s x e) (min W (C - x)))) h := by
  rw [e_202, b_202_0, gR_0_0 w, ld1v w h6 ht]
  exact rp_lp w Nb Q h6 hs hx T hF F12 hC C10 hW W4 e (min W (C - x)) 0 (by omega)
theorem c_rP' {m t s x a F C W : Nat} {q : Nat → Nat} (w : WF h) (Nb : neB m q) (Q : neC h m q) (h6 : t < 6) (hs : s < 4) (hx : x < C) (ht : h.2.2.2 1 t = some a) (T : twV h t a) (hF : h.2.1 a 0 = nI F) (F12 : F ≤ 12) (hC : h.2.1 a 1 = nI C) (C10 : C ≤ 10) (hW : h.2.1 a 2 = nI W) (W4 : W ≤ 4) (e : Int32) {β : Type} (Kc : Int64 × av_H → Option β) : (av_cL (ev X (d + 4) 202 [vr (some 0), vi (nI t), vi (nI s), vi (nI x), vi e] h)).bind Kc = Kc (lN (rp (rcQ h m q F a (t * 4 + s) s x e) (min W (C - x))), h) := by rw [c_rP w Nb Q h6 hs hx ht T hF F12 hC C10 hW W4 e]; rfl
/-- a pane is reached, by the reference -/
def roP (h : av_H) (m : Nat) (q : Nat → Nat) (t s x : Nat) (e : Int32) (f i : Nat) : Bool := decide (h.2.1 145 (((4 * t + s) * 12 + f) * 10 + (x + i)) = 0) && !anyN m 0 (neP h q (((4 * t + s) * 12 + f) * 10 + (x + i)) e)
theorem ri_lp (w : WF h) {m : Nat} {q : Nat → Nat} (Nb : neB m q) (Q : neQ h m q) {t s x f C W A : Nat} (h6 : t < 6) (hs : s < 4) (hx : x < C) (hf : f < 12) (hC : h.2.1 144 t = nI C) (C10 : C ≤ 10) (hW : h.2.1 148 t = nI W) (W4 : W ≤ 4) (e : Int32) : ∀ n k, k + n = min W (C - x) → bd X (d + 2) 287 12 [(0, vr (some 137)), (1, vi (nI t)), (2, vi (nI s)), (3, vi (nI x)), (4, vi e), (5, vl (lN (ri (roP h m q t s x e) A f k))), (7, vi (nI f)), (8, vi (nI k))] [] h = bd X (d + 2) 287 4 [(0, vr (some 137)), (1, vi (nI t)), (2, vi (nI s)), (3, vi (nI x)), (4, vi e), (5, vl (lN (ri (roP h m q t s x e) A f (min W (C - x))))), (7, vi (nI (f + 1)))] [] h
  | 0, k, hk => by
    have ek : k = min W (C - x) := by omega
    rw [b_287_12, gR_137_15 w, ld_148 w (by omega), hW, gR_137_11 w, ld_144 w (by omega), hC, nI_1]
    by_cases z : k < W
    · rw [if_pos (nI_lt z (by omega)), nI_add, if_neg (nI_nlt (by omega) (by omega)), ek, nI_1]
    · rw [if_neg (nI_nlt (by omega) (by omega)), ek, nI_1]
  | n + 1, k, hk => by
    have ih := ri_lp w Nb Q (A := A) h6 hs hx hf hC C10 hW W4 e n (k + 1) (by omega)
    have or0 : ∀ y : Nat, lN y ||| (0 : Int64) = lN y := fun y => by
      show lN y ||| lN 0 = _
      rw [fb_orL, Nat.or_zero]
    rw [ri, roP] at ih
    rw [b_287_12, gR_137_15 w, ld_148 w (by omega), hW, gR_137_11 w, ld_144 w (by omega), hC, if_pos (nI_lt (by omega) (by omega)), nI_add, if_pos (nI_lt (by omega) (by omega)), s_paneOf', gR_137_12 w, ld_145 w (by omega), nI_1, or0]
    by_cases z : h.2.1 145 (((4 * t + s) * 12 + f) * 10 + (x + k)) = 0
    · rw [decide_eq_true z, Bool.true_and] at ih
      rw [if_pos z, is_137 w, s_hasN' w Nb Q (by omega)]
      cases y : anyN m 0 (neP h q (((4 * t + s) * 12 + f) * 10 + (x + k)) e) with
      | false =>
        rw [y] at ih
        rw [if_pos (show bI false = 0 from rfl), lit_4, pk_mul, nI_add, shlL1 _ (by omega), fb_orL]
        exact ih
      | true =>
        rw [y] at ih
        rw [if_neg (show ¬ bI true = 0 by decide)]
        exact ih
    · rw [decide_eq_false z, Bool.false_and] at ih
      rw [if_neg z]
      exact ih
theorem ro_lp (w : WF h) {m : Nat} {q : Nat → Nat} (Nb : neB m q) (Q : neQ h m q) {t s x F C W : Nat} (h6 : t < 6) (hs : s < 4) (hx : x < C) (hF : h.2.1 143 t = nI F) (F12 : F ≤ 12) (hC : h.2.1 144 t = nI C) (C10 : C ≤ 10) (hW : h.2.1 148 t = nI W) (W4 : W ≤ 4) (e : Int32) : ∀ n f, f + n = F → bd X (d + 2) 287 4 [(0, vr (some 137)), (1, vi (nI t)), (2, vi (nI s)), (3, vi (nI x)), (4, vi e), (5, vl (lN (ro (roP h m q t s x e) (min W (C - x)) f))), (7, vi (nI f))] [] h = av_rL (lN (ro (roP h m q t s x e) (min W (C - x)) F)) h
  | 0, f, hf => by
    obtain rfl : f = F := by omega
    rw [b_287_4, gR_137_10 w, ld_143 w (by omega), hF, if_neg (nI_nlt (by omega) (by omega))]
  | n + 1, f, hf => by
    have ih := ro_lp w Nb Q h6 hs hx hF F12 hC C10 hW W4 e n (f + 1) (by omega)
    rw [b_287_4, gR_137_10 w, ld_143 w (by omega), hF, if_pos (nI_lt (by omega) (by omega))]
    exact (ri_lp w Nb Q (A := ro (roP h m q t s x e) (min W (C - x)) f) h6 hs hx (by omega) hC C10 hW W4 e (min W (C - x)) 0 (by omega)).trans ih
theorem s_rO {m t s x F C W : Nat} {q : Nat → Nat} (w : WF h) (Nb : neB m q) (Q : neQ h m q) (h6 : t < 6) (hs : s < 4) (hx : x < C) (hF : h.2.1 143 t = nI F) (F12 : F ≤ 12) (hC : h.2.1 144 t = nI C) (C10 : C ≤ 10) (hW : h.2.1 148 t = nI W) (W4 : W ≤ 4) (e : Int32) : ev X (d + 3) 287 [vr (some 137), vi (nI t), vi (nI s), vi (nI x), vi e] h = av_rL (lN (ro (roP h m q t s x e) (min W (C - x)) F)) h := by
  rw [e_287, b_287_0]
  exact ro_lp w Nb Q h6 hs hx hF F12 hC C10 hW W4 e F 0 (by omega)
theorem s_rO' {m t s x F C W : Nat} {q : Nat → Nat} (w : WF h) (Nb : neB m q) (Q : neQ h m q) (h6 : t < 6) (hs : s < 4) (hx : x < C) (hF : h.2.1 143 t = nI F) (F12 : F ≤ 12) (hC : h.2.1 144 t = nI C) (C10 : C ≤ 10) (hW : h.2.1 148 t = nI W) (W4 : W ≤ 4) (e : Int32) {β : Type} (Kc : Int64 × av_H → Option β) : (av_cL (ev X (d + 3) 287 [vr (some 137), vi (nI t), vi (nI s), vi (nI x), vi e] h)).bind Kc = Kc (lN (ro (roP h m q t s x e) (min W (C - x)) F), h) := by rw [s_rO w Nb Q h6 hs hx hF F12 hC C10 hW W4 e]; rfl
/-- both sides reach the same panes -/
theorem rch_eq {g : av_H} {m : Nat} {q : Nat → Nat} {t s x a F C K : Nat} (hs : s < 4) (hK : K ≤ 4) (hKC : x + K ≤ C) (C10 : C ≤ 10) (F12 : F ≤ 12) (T : twV h t a) (Dd : neD h g m) (g145 : g.2.1 145 = h.2.1 145) (e : Int32) : ∀ c, c < 4 → ∀ f, f < 12 → (rp (rcQ h m q F a (t * 4 + s) s x e) K).testBit (12 * c + f) = (ro (roP g m q t s x e) K F).testBit (4 * f + c) := fun c hc f hf => by
  rw [rp_bit (fun k => rcQ_lt F12) hf, ro_bit hK hc]
  by_cases z : c < K
  · obtain ⟨b1, b2, b3⟩ := T.blk hs (show x + c < 10 by omega)
    rw [decide_eq_true z, Bool.true_and, Bool.true_and, rcQ, nd_bit, frM_bit, flo_bit hf (by omega) Dd m (Nat.le_refl m), roP, g145, b3 f hf, show t * 4 + s = 4 * t + s by omega]
    cases decide (f < F) with
    | false => rfl
    | true =>
      rw [Bool.true_and, Bool.true_and]
      cases (blkN h a s (x + c)).testBit f <;> rfl
  · rw [decide_eq_false z, Bool.false_and, Bool.false_and, Bool.and_false]
theorem reach_ok (w : WF h) (J : J_tow h) (Ne : J_ne h) (t s x e : Int32) : ∃ v h1 h2, ev X (d + 6) 138 [vr (some 0), vi t, vi s, vi x, vi e] h = av_rI v h1 ∧ ev X (d + 6) 291 [vr (some 137), vi t, vi s, vi x, vi e] h1 = av_rI v h2 ∧ WF h2 ∧ off false [] [(137, 0)] h h2 := by
  have J2 := J.R.th
  cases ok : (isStp h t s x && rg e 0 99) with
  | false =>
    refine ⟨-1, h, th h, ?_, ?_, w, agr.uI rfl agr.rfl⟩
    · rcases bdi (isStp h t s x) with q1 | q1
      · simp (disch := first | ((repeat (first | with_reducible apply WF_uI | with_reducible apply WF_uL | with_reducible apply WF_th | with_reducible apply WF_fillL | with_reducible apply WF_fgt)); with_reducible assumption) | omega | (simp only [uI_1, uL_1, th_1, uI_R, uL_R]; with_reducible assumption)) only [e_138, b_138_0, ↓is_0, ↓c_isStop', ↓c_isDay', ↓reduceIte, i10, av_cI_r, av_cL_r, av_cV_r, Option.bind_some, ↓zb_0, ↓zb_1, ↓zb_b, bI_0, q1, Bool.true_eq_false]
      rcases bdi (rg e 0 99) with q2 | q2
      · simp (disch := first | ((repeat (first | with_reducible apply WF_uI | with_reducible apply WF_uL | with_reducible apply WF_th | with_reducible apply WF_fillL | with_reducible apply WF_fgt)); with_reducible assumption) | omega | (simp only [uI_1, uL_1, th_1, uI_R, uL_R]; with_reducible assumption)) only [e_138, b_138_0, ↓is_0, ↓c_isStop', ↓c_isDay', ↓reduceIte, i10, av_cI_r, av_cL_r, av_cV_r, Option.bind_some, ↓zb_0, ↓zb_1, ↓zb_b, bI_0, q1, q2, Bool.true_eq_false]
      simp [q1, q2] at ok
    · rcases bdi (isStp h t s x) with q1 | q1
      · simp (disch := first | ((repeat (first | with_reducible apply WF_uI | with_reducible apply WF_uL | with_reducible apply WF_th | with_reducible apply WF_fillL | with_reducible apply WF_fgt)); with_reducible assumption) | omega | (simp only [uI_1, uL_1, th_1, uI_R, uL_R]; with_reducible assumption)) only [e_291, b_291_0, ↓pI_137, th_e, ↓is_137, ↓s_isStop', ↓s_isDay', isStp_th, ↓reduceIte, i10, av_cI_r, av_cL_r, av_cV_r, Option.bind_some, ↓zb_0, ↓zb_1, ↓zb_b, bI_0, q1, Bool.true_eq_false]
      rcases bdi (rg e 0 99) with q2 | q2
      · simp (disch := first | ((repeat (first | with_reducible apply WF_uI | with_reducible apply WF_uL | with_reducible apply WF_th | with_reducible apply WF_fillL | with_reducible apply WF_fgt)); with_reducible assumption) | omega | (simp only [uI_1, uL_1, th_1, uI_R, uL_R]; with_reducible assumption)) only [e_291, b_291_0, ↓pI_137, th_e, ↓is_137, ↓s_isStop', ↓s_isDay', isStp_th, ↓reduceIte, i10, av_cI_r, av_cL_r, av_cV_r, Option.bind_some, ↓zb_0, ↓zb_1, ↓zb_b, bI_0, q1, q2, Bool.true_eq_false]
      simp [q1, q2] at ok
  | true =>
    obtain ⟨q1, q2⟩ : isStp h t s x = true ∧ rg e 0 99 = true := by simpa only [Bool.and_eq_true] using ok
    have q3 : told h t = true := by simp only [isStp, Bool.and_eq_true] at q1; exact q1.1.1
    obtain ⟨t0, s, x, b1, b2, b3, rfl, rfl, rfl, C0, hx, C10, hC0⟩ := stp_ex J.R q1
    obtain ⟨t, a, h6, e0, hj, T⟩ := told_ex J q3
    obtain rfl : t0 = t := (nI_eq (by omega) (by omega)).mp e0
    obtain ⟨F, C, W, L, V, p1, p2, p3, p4, p5, p6, -, -, -, r1, r2, r3, r4, r5, r6, -⟩ := T.2.2.2.2.2.2.1
    obtain rfl : C0 = C := (nI_eq (by omega) (by omega)).mp (hC0.symm.trans r4)
    obtain ⟨m, q, Nb, Nc, Nq, Nd⟩ := Ne.E
    have Nq2 : neQ (th h) m q := by
      unfold neQ at Nq ⊢
      simp (disch := omega) only [th_I, th_k]
      exact Nq
    have hK : min W (C0 - x) ≤ 4 := by omega
    have bM := rp_lt (Q := rcQ h m q F a (t0 * 4 + s) s x e) (fun k => rcQ_lt p2) (min W (C0 - x))
    have bM2 : (2 : Nat) ^ (12 * min W (C0 - x)) ≤ 2 ^ 48 := Nat.pow_le_pow_right (by decide) (by omega)
    have bN := ro_lt (P := roP (th h) m q t0 s x e) hK F
    have bN2 : (2 : Nat) ^ (4 * F) ≤ 2 ^ 48 := Nat.pow_le_pow_right (by decide) (by omega)
    have eq := rch_eq (h := h) (g := th h) (m := m) (q := q) (F := F) (C := C0) (x := x) b2 hK (by omega) C10 p2 T.v (by
      unfold neD at Nd ⊢
      simp (disch := omega) only [th_I]
      exact Nd) (th_I (by decide)) e
    refine ⟨nI (bct (rp (rcQ h m q F a (t0 * 4 + s) s x e) (min W (C0 - x)))), h, th h, ?_, ?_, w, agr.uI rfl agr.rfl⟩
    · simp (disch := first | ((repeat (first | with_reducible apply WF_uI | with_reducible apply WF_uL | with_reducible apply WF_th | with_reducible apply WF_fillL | with_reducible apply WF_fgt)); with_reducible assumption) | omega | (simp only [uI_1, uL_1, th_1, uI_R, uL_R]; with_reducible assumption)) only [e_138, b_138_0, ↓is_0, ↓c_isStop', ↓c_isDay', ↓reduceIte, i10, av_cI_r, av_cL_r, av_cV_r, Option.bind_some, ↓zb_0, ↓zb_1, ↓zb_b, bI_0, q1, q2, Bool.true_eq_false]
      rw [c_rP' (d := d + 1) w Nb Nc b1 b2 hx hj T.v r1 p2 r3 C10 r5 p6, c_bc64' (by omega)]
    · simp (disch := first | ((repeat (first | with_reducible apply WF_uI | with_reducible apply WF_uL | with_reducible apply WF_th | with_reducible apply WF_fillL | with_reducible apply WF_fgt)); with_reducible assumption) | omega | (simp only [uI_1, uL_1, th_1, uI_R, uL_R]; with_reducible assumption)) only [e_291, b_291_0, ↓pI_137, th_e, ↓is_137, ↓s_isStop', ↓s_isDay', isStp_th, ↓reduceIte, i10, av_cI_r, av_cL_r, av_cV_r, Option.bind_some, ↓zb_0, ↓zb_1, ↓zb_b, bI_0, q1, q2, Bool.true_eq_false]
      rw [s_rO' (d := d + 2) (WF_th w) Nb Nq2 b1 b2 hx (by rw [th_I (by decide)]; exact r2) p2 (by rw [th_I (by decide)]; exact r4) C10 (by rw [th_I (by decide)]; exact r6) p6, s_bits' (by omega), bits_eq2 (by omega) eq]
end
