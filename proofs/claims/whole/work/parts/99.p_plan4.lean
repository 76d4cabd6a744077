/-! the reference finds its plans; lowest terms -/
theorem lN_rem {a b : Nat} (ha : a < 2 ^ 62) (h0 : 0 < b) (hb : b < 2 ^ 62) : lN a - lN a / lN b * lN b = lN (a % b) := by
  have e : a - a / b * b = a % b := by
    have h1 := Nat.div_add_mod a b
    have h2 : b * (a / b) = a / b * b := Nat.mul_comm _ _
    omega
  rw [pk_lDiv (by omega) h0 (by omega), lN_mul, lN_sub (Nat.div_mul_le_self a b), e]
section
variable {X : av_X} {d : Nat} {h : av_H}
theorem lN_ne0 {b : Nat} (h0 : 0 < b) (hb : b < 2 ^ 62) : ¬ lN b = 0 := fun z => by
  have := (lN_eq' hb (show 0 < 2 ^ 62 by decide)).mp z
  omega
theorem cg_lp {v0 v2 : Int64} {v4 : Int32} : ∀ k a b i, a < 2 ^ 62 → b < 2 ^ k → k ≤ 60 → i + (2 * k + 1) ≤ 200 → bd X d 235 6 [(0, vl v0), (2, vl v2), (4, vi v4), (5, vl (lN a)), (7, vl (lN b)), (9, vi (nI i))] [] h = bd X d 235 23 [(0, vl v0), (2, vl v2), (4, vi v4), (5, vl (lN (Nat.gcd a b)))] [] h
  | 0, a, b, i, ha, hb, _, hi => by
    obtain rfl : b = 0 := by omega
    rw [b_235_6, if_pos (show nI i < 200 from nI_lt (b := 200) (by omega) (by omega)), if_pos (show lg_cmp (lN 0) 0 = 0 by decide), Nat.gcd_zero_right]
  | k + 1, a, b, i, ha, hb, hk, hi => by
    have p1 : (2 : Nat) ^ (k + 1) = 2 * 2 ^ k := by rw [Nat.pow_succ, Nat.mul_comm]
    have p2 : (2 : Nat) ^ (k + 1) ≤ 2 ^ 60 := Nat.pow_le_pow_right (by decide) hk
    by_cases z : b = 0
    · subst z
      rw [b_235_6, if_pos (show nI i < 200 from nI_lt (b := 200) (by omega) (by omega)), if_pos (show lg_cmp (lN 0) 0 = 0 by decide), Nat.gcd_zero_right]
    · have nz : ¬ lg_cmp (lN b) 0 = 0 := fun y => by
        rw [lN_0 (show b < 2 ^ 64 by omega)] at y
        exact z y
      have g1 : Nat.gcd a b = Nat.gcd b (a % b) := by rw [Nat.gcd_comm a b, Nat.gcd_rec b a, Nat.gcd_comm]
      have lt1 : a % b < b := Nat.mod_lt _ (by omega)
      rw [b_235_6, if_pos (show nI i < 200 from nI_lt (b := 200) (by omega) (by omega)), if_neg nz, if_neg (lN_ne0 (by omega) (by omega)), lN_rem ha (by omega) (by omega), nI_1, g1]
      by_cases y : a % b = 0
      · rw [y, b_235_6, if_pos (show nI (i + 1) < 200 from nI_lt (b := 200) (by omega) (by omega)), if_pos (show lg_cmp (lN 0) 0 = 0 by decide), Nat.gcd_zero_right]
      · have nz2 : ¬ lg_cmp (lN (a % b)) 0 = 0 := fun u => by
          rw [lN_0 (show a % b < 2 ^ 64 by omega)] at u
          exact y u
        have lt2 : b % (a % b) < a % b := Nat.mod_lt _ (by omega)
        have half : 2 * (b % (a % b)) < b := by
          have m1 := Nat.div_add_mod b (a % b)
          have m2 : 1 ≤ b / (a % b) := Nat.div_pos (by omega) (by omega)
          have m3 : a % b ≤ (a % b) * (b / (a % b)) := Nat.le_mul_of_pos_right _ m2
          omega
        have g2 : Nat.gcd b (a % b) = Nat.gcd (a % b) (b % (a % b)) := by rw [Nat.gcd_comm b (a % b), Nat.gcd_rec (a % b) b, Nat.gcd_comm]
        rw [b_235_6, if_pos (show nI (i + 1) < 200 from nI_lt (b := 200) (by omega) (by omega)), if_neg nz2, if_neg (lN_ne0 (by omega) (by omega)), lN_rem (by omega) (by omega) (by omega), nI_1, g2]
        exact cg_lp k (a % b) (b % (a % b)) (i + 1 + 1) (by omega) (by omega) (by omega) (by omega)
theorem sg_lp : ∀ B a b, b < B → a < 2 ^ 62 → b < 2 ^ 62 → bd X d 327 4 [(4, vl (lN a)), (6, vl (lN b))] [] h = av_rL (lN (Nat.gcd a b)) h
  | 0, _, _, hB, _, _ => absurd hB (by omega)
  | B + 1, a, b, hB, ha, hb => by
    by_cases z : b = 0
    · subst z
      rw [b_327_4, if_pos (show lg_cmp (lN 0) 0 = 0 by decide), Nat.gcd_zero_right]
    · have nz : ¬ lg_cmp (lN b) 0 = 0 := fun y => by
        rw [lN_0 (show b < 2 ^ 64 by omega)] at y
        exact z y
      have g1 : Nat.gcd a b = Nat.gcd b (a % b) := by rw [Nat.gcd_comm a b, Nat.gcd_rec b a, Nat.gcd_comm]
      have lt1 : a % b < b := Nat.mod_lt _ (by omega)
      rw [b_327_4, if_neg nz, if_neg (lN_ne0 (by omega) hb), lN_rem ha (by omega) hb, g1]
      exact sg_lp B b (a % b) (by omega) hb (by omega)
/-- the value in lowest terms: above or below -/
def lwT (a b : Nat) (q : Int32) : Int64 := if q = 0 then lN (a / Nat.gcd a b) else lN (b / Nat.gcd a b)
theorem c_low {a b : Nat} {q : Int32} (ha : a < 2 ^ 60) (hb : b < 2 ^ 17) (b0 : 0 < b) : ev X (d + 2) 235 [vl (lN a), vl (lN b), vi q] h = av_rL (lwT a b q) h := by
  have lp := cg_lp (X := X) (d := d + 1) (h := h) (v0 := lN a) (v2 := lN b) (v4 := q) 17 a b 0 (by omega) hb (by decide) (by decide)
  have g0 : 0 < Nat.gcd a b := Nat.gcd_pos_of_pos_right _ b0
  have gl : Nat.gcd a b ≤ b := Nat.gcd_le_right _ b0
  rw [e_235, b_235_0, show (vi 0 : av_V) = vi (nI 0) from rfl, lp, b_235_23, show (1 : Int64) = lN 1 from rfl, c_maxL (by decide) (by omega), av_cL_r, Option.bind_some, Nat.max_eq_right (by omega), lwT]
  by_cases z : q = 0
  · rw [if_pos z, if_pos z, if_neg (lN_ne0 g0 (by omega)), pk_lDiv (by omega) g0 (by omega)]
  · rw [if_neg z, if_neg z, if_neg (lN_ne0 g0 (by omega)), pk_lDiv (by omega) g0 (by omega)]
theorem s_low {a b : Nat} {q : Int32} (ha : a < 2 ^ 60) (hb : b < 2 ^ 17) (b0 : 0 < b) : ev X (d + 2) 328 [vl (lN a), vl (lN b), vi q] h = av_rL (lwT a b q) h := by
  have lp := sg_lp (X := X) (d := d) (h := h) (b + 1) a b (by omega) (by omega) (by omega)
  have g0 : 0 < Nat.gcd a b := Nat.gcd_pos_of_pos_right _ b0
  have gl : Nat.gcd a b ≤ b := Nat.gcd_le_right _ b0
  rw [e_328, b_328_0, e_327, b_327_0, lp, av_cL_r, Option.bind_some, lwT]
  by_cases z : q = 0
  · rw [if_pos z, if_pos z, if_neg (lN_ne0 g0 (by omega)), pk_lDiv (by omega) g0 (by omega)]
  · rw [if_neg z, if_neg z, if_neg (lN_ne0 g0 (by omega)), pk_lDiv (by omega) g0 (by omega)]
end
section
variable {X : av_X} {d : Nat} {n c : Nat} {p S W : Nat → Nat} {ch : Nat → Nat → Nat} {h0 : av_H}
theorem fp_s {h : av_H} (w : WF h) (P : PR n c p S W ch h) {r lf : Nat} (hr : r ≤ 4) (ll : lf < 2 ^ n) (L : PL n c p S W ch r h) : ∀ k s, s + k = 4 → bd X (d + 3) 326 34 [(0, vr (some 137)), (1, vi (nI (4 - r))), (2, vi (nI lf)), (3, vl (lN (mxS (10 * plN n c p S W ch r lf) (bwV n c p S W ch (plN n c p S W ch r) r lf) s))), (5, vi (nI s))] [] h = bd X (d + 3) 326 20 [(0, vr (some 137)), (1, vi (nI (4 - r))), (2, vi (nI (lf + 1)))] [] (av_uL h 189 (256 * (4 - r) + lf) (lN (plN n c p S W ch (r + 1) lf)))
  | 0, s, hs => by
    obtain rfl : s = 4 := by omega
    have pn : 2 ^ n ≤ 256 := Nat.pow_le_pow_right (n := 2) (by decide) P.1.1
    rw [b_326_34, if_neg (show ¬ nI 4 < 4 by decide), gR_137_69 w, show (256 : Int32) = nI 256 from rfl, pk_mul, nI_add, st_189 w (by omega), nI_1]
    rfl
  | k + 1, s, hs => by
    have ih := fp_s w P hr ll L k (s + 1) (by omega)
    have hch : ∀ e s, e < 5 → s < 4 → ch e s ≤ 10 := fun e s he hs => (P.2.2.2.2 e s he hs).1
    have b1 : mxS (10 * plN n c p S W ch r lf) (bwV n c p S W ch (plN n c p S W ch r) r lf) s ≤ 100000000000 := mxS_ub (by have := pl_lt P.1 hch (c := c) (lf := lf) (show r ≤ 5 by omega); omega) s (fun s' hs' => Nat.le_of_lt (bw_lt P.1 hch hr (by omega)))
    have b2 := bw_lt P.1 hch (c := c) (lf := lf) hr (show s < 4 by omega)
    have e1 := s_day (X := X) (d := d) w P hr ll (show s < 5 by omega) L
    rw [if_neg (show ¬ s = 4 by omega)] at e1
    rw [mxS] at ih
    rw [b_326_34, if_pos (show nI s < 4 from nI_lt (b := 4) (by omega) (by omega)), is_137 w, e1, av_cL_r, Option.bind_some, nI_1]
    simp only [lg_cmp_gt, lN_lt' (show mxS (10 * plN n c p S W ch r lf) (bwV n c p S W ch (plN n c p S W ch r) r lf) s < 2 ^ 62 by omega) (show bwV n c p S W ch (plN n c p S W ch r) r lf s < 2 ^ 62 by omega)]
    by_cases z : mxS (10 * plN n c p S W ch r lf) (bwV n c p S W ch (plN n c p S W ch r) r lf) s < bwV n c p S W ch (plN n c p S W ch r) r lf s
    · rw [Nat.max_eq_right (by omega)] at ih
      rw [if_pos z, is_137 w, e1, av_cL_r, Option.bind_some]
      exact ih
    · rw [Nat.max_eq_left (by omega)] at ih
      rw [if_neg z]
      exact ih
theorem fp_l (P0 : PR n c p S W ch h0) {r : Nat} (hr : r ≤ 4) : ∀ k lf h, lf + k = 2 ^ n → WF h → off false [189] [] h0 h → (∀ r', r' ≤ r → PL n c p S W ch r' h) → (∀ l, l < lf → h.2.2.1 189 (256 * (4 - r) + l) = lN (plN n c p S W ch (r + 1) l)) → ∃ h', WF h' ∧ off false [189] [] h0 h' ∧ (∀ r', r' ≤ r + 1 → PL n c p S W ch r' h') ∧ bd X (d + 3) 326 20 [(0, vr (some 137)), (1, vi (nI (4 - r))), (2, vi (nI lf))] [] h = bd X (d + 3) 326 16 [(0, vr (some 137)), (1, vi (nI (4 - r) - 1))] [] h'
  | 0, lf, h, hk, w, O, L, H => by
    obtain rfl : lf = 2 ^ n := by omega
    have P := P0.fr (O.fr (by decide))
    have pn : 2 ^ n ≤ 256 := Nat.pow_le_pow_right (n := 2) (by decide) P.1.1
    have n8 := P.1.1
    refine ⟨h, w, O, fun r' hr' => ?_, ?_⟩
    · by_cases z : r' = r + 1
      · intro l hl
        rw [z, show 5 - (r + 1) = 4 - r by omega]
        exact H l hl
      · exact L r' (by omega)
    · rw [b_326_20, gIv_137_64 w P.2.1.1, nb_sh1 n (by omega), if_neg (nI_nlt (by omega) (by omega)), subI]
  | k + 1, lf, h, hk, w, O, L, H => by
    have P := P0.fr (O.fr (by decide))
    have pn : 2 ^ n ≤ 256 := Nat.pow_le_pow_right (n := 2) (by decide) P.1.1
    have n8 := P.1.1
    have ll : lf < 2 ^ n := by omega
    have e0 := s_day (X := X) (d := d) w P hr ll (show 4 < 5 by decide) (L r (Nat.le_refl _))
    rw [if_pos rfl] at e0
    have es := fp_s (X := X) (d := d) w P hr ll (L r (Nat.le_refl _)) 4 0 (by omega)
    obtain ⟨h', w', O', L', e'⟩ := fp_l P0 hr k (lf + 1) (av_uL h 189 (256 * (4 - r) + lf) (lN (plN n c p S W ch (r + 1) lf))) (by omega) (WF_uL w) (agr.uL rfl O) (fun r' hr' l hl => by
      rw [uL_nk (by omega)]
      exact L r' hr' l hl) (fun l hl => by
      by_cases z : l = lf
      · rw [z, uL_eq]
      · rw [uL_nk (by omega)]
        exact H l (by omega))
    refine ⟨h', w', O', L', ?_⟩
    rw [b_326_20, gIv_137_64 w P.2.1.1, nb_sh1 n (by omega), if_pos (nI_lt (by omega) (by omega)), is_137 w, show (4 : Int32) = nI 4 from rfl, e0, av_cL_r, Option.bind_some]
    exact es.trans e'
theorem fp_d (P0 : PR n c p S W ch h0) : ∀ k r h, r + k = 5 → WF h → off false [189] [] h0 h → (∀ r', r' ≤ r → PL n c p S W ch r' h) → ∃ h', WF h' ∧ off false [189] [] h0 h' ∧ (∀ r', r' ≤ 5 → PL n c p S W ch r' h') ∧ bd X (d + 3) 326 16 [(0, vr (some 137)), (1, vi (nI (5 - r) - 1))] [] h = av_rV h'
  | 0, r, h, hk, w, O, L => by
    obtain rfl : r = 5 := by omega
    exact ⟨h, w, O, L, by rw [b_326_16, if_pos (show nI (5 - 5) - 1 < 0 by decide)]⟩
  | k + 1, r, h, hk, w, O, L => by
    obtain ⟨h1, w1, O1, L1, e1⟩ := fp_l (X := X) (d := d) P0 (show r ≤ 4 by omega) (2 ^ n) 0 h (by omega) w O L (fun l hl => absurd hl (by omega))
    obtain ⟨h2, w2, O2, L2, e2⟩ := fp_d P0 k (r + 1) h1 (by omega) w1 O1 L1
    refine ⟨h2, w2, O2, L2, ?_⟩
    rw [show 5 - (r + 1) = 4 - r by omega] at e2
    rw [b_326_16, nI_prd (by omega), show 5 - r - 1 = 4 - r by omega, if_neg (nI_pos (by omega))]
    exact e1.trans e2
theorem fp_z : ∀ k i h, i + k = 256 → WF h → off false [189] [] h0 h → (∀ l, l < i → h.2.2.1 189 (1280 + l) = 0) → ∃ h', WF h' ∧ off false [189] [] h0 h' ∧ (∀ l, l < 256 → h'.2.2.1 189 (1280 + l) = 0) ∧ bd X (d + 3) 326 2 [(0, vr (some 137)), (1, vi (nI i))] [] h = bd X (d + 3) 326 16 [(0, vr (some 137)), (1, vi 4)] [] h'
  | 0, i, h, hk, w, O, H => by
    obtain rfl : i = 256 := by omega
    exact ⟨h, w, O, H, by rw [b_326_2, if_neg (show ¬ nI 256 < 256 by decide)]⟩
  | k + 1, i, h, hk, w, O, H => by
    obtain ⟨h', w', O', H', e'⟩ := fp_z k (i + 1) (av_uL h 189 (1280 + i) 0) (by omega) (WF_uL w) (agr.uL rfl O) (fun l hl => by
      by_cases z : l = i
      · rw [z, uL_eq]
      · rw [uL_nk (by omega)]
        exact H l (by omega))
    refine ⟨h', w', O', H', ?_⟩
    rw [b_326_2, if_pos (show nI i < 256 from nI_lt (b := 256) (by omega) (by omega)), gR_137_69 w, show (1280 : Int32) = nI 1280 from rfl, nI_add, st_189 w (by omega), nI_1]
    exact e'
theorem s_find {h : av_H} (w : WF h) (P : PR n c p S W ch h) : ∃ h', WF h' ∧ off false [189] [] h h' ∧ (∀ r', r' ≤ 5 → PL n c p S W ch r' h') ∧ ev X (d + 4) 326 [vr (some 137)] h = av_rV h' := by
  have pn : 2 ^ n ≤ 256 := Nat.pow_le_pow_right (n := 2) (by decide) P.1.1
  obtain ⟨h1, w1, O1, H1, e1⟩ := fp_z (X := X) (d := d) (h0 := h) 256 0 h (by omega) w agr.rfl (fun l hl => absurd hl (by omega))
  obtain ⟨h2, w2, O2, L2, e2⟩ := fp_d (X := X) (d := d) P 5 0 h1 (by omega) w1 O1 (fun r' hr' l hl => by
    obtain rfl : r' = 0 := by omega
    rw [plN]
    exact H1 l (by omega))
  refine ⟨h2, w2, O2, L2, ?_⟩
  rw [e_326, b_326_0]
  exact e1.trans e2
theorem se_lp {h : av_H} (w : WF h) (P : PR n c p S W ch h) {r lf : Nat} (hr : r ≤ 4) (ll : lf < 2 ^ n) (L : PL n c p S W ch r h) (L1 : PL n c p S W ch (r + 1) h) : ∀ k s, s + k = 4 → bd X (d + 3) 329 50 [(0, vr (some 137)), (1, vi (nI (4 - r))), (2, vi (nI lf)), (4, vi (nI s))] [] h = av_rL (oI (rfS (10 * plN n c p S W ch r lf) (plN n c p S W ch (r + 1) lf) (bwV n c p S W ch (plN n c p S W ch r) r lf) k s)).toInt64 h
  | 0, s, hs => by
    obtain rfl : s = 4 := by omega
    rw [b_329_50, if_neg (show ¬ nI 4 < 4 by decide), rfS]
    rfl
  | k + 1, s, hs => by
    have ih := se_lp w P hr ll L L1 k (s + 1) (by omega)
    have pn : 2 ^ n ≤ 256 := Nat.pow_le_pow_right (n := 2) (by decide) P.1.1
    have hch : ∀ e s, e < 5 → s < 4 → ch e s ≤ 10 := fun e s he hs => (P.2.2.2.2 e s he hs).1
    have b0 := pl_lt P.1 hch (c := c) (lf := lf) (show r ≤ 5 by omega)
    have b1 := pl_lt P.1 hch (c := c) (lf := lf) (show r + 1 ≤ 5 by omega)
    have b2 := bw_lt P.1 hch (c := c) (lf := lf) hr (show s < 4 by omega)
    have e1 := s_day (X := X) (d := d) w P hr ll (show s < 5 by omega) L
    rw [if_neg (show ¬ s = 4 by omega)] at e1
    have e4 := s_day (X := X) (d := d) w P hr ll (show 4 < 5 by decide) L
    rw [if_pos rfl] at e4
    have l1 := L1 lf ll
    rw [show 5 - (r + 1) = 4 - r by omega] at l1
    rw [b_329_50, if_pos (show nI s < 4 from nI_lt (b := 4) (by omega) (by omega)), is_137 w, e1, av_cL_r, Option.bind_some, gR_137_69 w, show (256 : Int32) = nI 256 from rfl, pk_mul, nI_add, ld_189 w (by omega), l1, nI_1, rfS]
    simp only [lg_cmp_eq, lN_eq' (show bwV n c p S W ch (plN n c p S W ch r) r lf s < 2 ^ 62 by omega) (show plN n c p S W ch (r + 1) lf < 2 ^ 62 by omega)]
    by_cases z : bwV n c p S W ch (plN n c p S W ch r) r lf s = plN n c p S W ch (r + 1) lf
    · rw [if_pos z, is_137 w, e1, av_cL_r, Option.bind_some, is_137 w, show (4 : Int32) = nI 4 from rfl, e4, av_cL_r, Option.bind_some]
      simp only [lg_cmp_gt, lN_lt' (show 10 * plN n c p S W ch r lf < 2 ^ 62 by omega) (show bwV n c p S W ch (plN n c p S W ch r) r lf s < 2 ^ 62 by omega)]
      by_cases y : 10 * plN n c p S W ch r lf < bwV n c p S W ch (plN n c p S W ch r) r lf s
      · rw [if_pos y, if_pos ⟨z, y⟩, oI_s]
      · rw [if_neg y, if_neg (fun q => y q.2)]
        exact ih
    · rw [if_neg z, if_neg (fun q => z q.1)]
      exact ih
end
