/-! water -/
theorem ct4 (p : Nat → Nat → Bool) : ∀ n, fb_ct (fun i => p (i % 4) (i / 4)) (4 * n) = fb_ct (p 0) n + fb_ct (p 1) n + fb_ct (p 2) n + fb_ct (p 3) n
  | 0 => rfl
  | n + 1 => by
    rw [show 4 * (n + 1) = 4 * n + 1 + 1 + 1 + 1 by omega, fb_ct_succ, fb_ct_succ, fb_ct_succ, fb_ct_succ, ct4 p n, fb_ct_succ, fb_ct_succ, fb_ct_succ, fb_ct_succ]
    rw [show (4 * n + 1 + 1 + 1) % 4 = 3 by omega, show (4 * n + 1 + 1 + 1) / 4 = n by omega, show (4 * n + 1 + 1) % 4 = 2 by omega, show (4 * n + 1 + 1) / 4 = n by omega, show (4 * n + 1) % 4 = 1 by omega, show (4 * n + 1) / 4 = n by omega, show (4 * n) % 4 = 0 by omega, show (4 * n) / 4 = n by omega]
    omega
theorem ct48 (q : Nat → Bool) : fb_ct q 48 = fb_ct (fun f => q (12 * 0 + f)) 12 + fb_ct (fun f => q (12 * 1 + f)) 12 + fb_ct (fun f => q (12 * 2 + f)) 12 + fb_ct (fun f => q (12 * 3 + f)) 12 := by
  rw [show (48 : Nat) = 36 + 12 from rfl, fb_ct_split, show (36 : Nat) = 24 + 12 from rfl, fb_ct_split, show (24 : Nat) = 12 + 12 from rfl, fb_ct_split]
  simp only [Nat.mul_zero, Nat.zero_add, Nat.reduceMul, Nat.reduceAdd]
/-- the panes of a column, those above a floor -/
def clA (M c : Nat) : Nat := fb_ct (fun f => M.testBit (12 * c + f)) 12
def clB (M c f : Nat) : Nat := fb_ct (fun f' => M.testBit (12 * c + f') && decide (f < f')) 12
theorem bits_eq {D : Nat → Nat} {M N : Nat} (B : dpb D M N) : fb_ct (fun i => N.testBit i) 48 = bct M := by
  obtain ⟨-, -, -, -, -, -, -, -, -, -, -, -, -, -, -, -, -, -, -, -, bM, bN, bb, -⟩ := B
  rw [bct, ct_big bM (by decide), ct48 (fun i => M.testBit i)]
  have e := (fb_ct_cong (p := fun i => N.testBit i) (q := fun i => N.testBit (4 * (i / 4) + i % 4)) (n := 4 * 12) (fun i _ => by rw [show 4 * (i / 4) + i % 4 = i by omega])).trans (ct4 (fun c f => N.testBit (4 * f + c)) 12)
  rw [show (48 : Nat) = 4 * 12 from rfl, e]
  congr 1
  · congr 1
    · congr 1
      · exact fb_ct_cong fun f hf => (bb 0 (by decide) f hf).symm
      · exact fb_ct_cong fun f hf => (bb 1 (by decide) f hf).symm
    · exact fb_ct_cong fun f hf => (bb 2 (by decide) f hf).symm
  · exact fb_ct_cong fun f hf => (bb 3 (by decide) f hf).symm
/-- the panes ahead of one -/
def ahd (D : Nat → Nat) (N f c : Nat) : Nat → Nat := fb_ct (fun i => N.testBit i && (decide (D 2 + i % 4 < c) || (decide (D 2 + i % 4 = c) && decide (f < i / 4))))
theorem ahd_eq {D : Nat → Nat} {M N f c : Nat} (B : dpb D M N) (hc : D 2 ≤ c ∧ c ≤ D 2 + 3) : ahd D N f c 48 = fb_sm (clA M) (c - D 2) + clB M (c - D 2) f := by
  obtain ⟨-, -, -, -, -, -, -, -, -, -, -, -, -, -, -, -, -, -, -, -, bM, bN, bb, -⟩ := B
  obtain ⟨k, hk, rfl⟩ : ∃ k, k < 4 ∧ c = D 2 + k := ⟨c - D 2, by omega, by omega⟩
  rw [show D 2 + k - D 2 = k by omega]
  have e0 := (fb_ct_cong (p := fun i => N.testBit i && (decide (D 2 + i % 4 < D 2 + k) || (decide (D 2 + i % 4 = D 2 + k) && decide (f < i / 4)))) (q := fun i => N.testBit (4 * (i / 4) + i % 4) && (decide (D 2 + i % 4 < D 2 + k) || (decide (D 2 + i % 4 = D 2 + k) && decide (f < i / 4)))) (n := 4 * 12) (fun i _ => by rw [show 4 * (i / 4) + i % 4 = i by omega])).trans (ct4 (fun c' f' => N.testBit (4 * f' + c') && (decide (D 2 + c' < D 2 + k) || (decide (D 2 + c' = D 2 + k) && decide (f < f')))) 12)
  rw [show (48 : Nat) = 4 * 12 from rfl, ahd, e0]
  have lo : ∀ c', c' < 4 → c' < k → fb_ct (fun f' => N.testBit (4 * f' + c') && (decide (D 2 + c' < D 2 + k) || (decide (D 2 + c' = D 2 + k) && decide (f < f')))) 12 = clA M c' := fun c' h4 hl => fb_ct_cong fun f' hf' => by
    rw [bb c' h4 f' hf', decide_eq_true (show D 2 + c' < D 2 + k by omega), Bool.true_or, Bool.and_true]
  have md : fb_ct (fun f' => N.testBit (4 * f' + k) && (decide (D 2 + k < D 2 + k) || (decide (D 2 + k = D 2 + k) && decide (f < f')))) 12 = clB M k f := fb_ct_cong fun f' hf' => by
    rw [bb k hk f' hf', decide_eq_false (show ¬ D 2 + k < D 2 + k by omega), Bool.false_or, decide_eq_true rfl, Bool.true_and]
  have hi : ∀ c', k < c' → fb_ct (fun f' => N.testBit (4 * f' + c') && (decide (D 2 + c' < D 2 + k) || (decide (D 2 + c' = D 2 + k) && decide (f < f')))) 12 = 0 := fun c' hl => fb_ct_zero.mpr fun f' hf' => by
    rw [decide_eq_false (show ¬ D 2 + c' < D 2 + k by omega), decide_eq_false (show ¬ D 2 + c' = D 2 + k by omega), Bool.false_and, Bool.or_false, Bool.and_false]
  obtain rfl | rfl | rfl | rfl : k = 0 ∨ k = 1 ∨ k = 2 ∨ k = 3 := by omega
  · rw [md, hi 1 (by decide), hi 2 (by decide), hi 3 (by decide)]
    simp only [fb_sm, Nat.zero_add, Nat.add_zero]
  · rw [lo 0 (by decide) (by decide), md, hi 2 (by decide), hi 3 (by decide)]
    simp only [fb_sm, Nat.zero_add, Nat.add_zero]
  · rw [lo 0 (by decide) (by decide), lo 1 (by decide) (by decide), md, hi 3 (by decide)]
    simp only [fb_sm, Nat.zero_add, Nat.add_zero]
  · rw [lo 0 (by decide) (by decide), lo 1 (by decide) (by decide), lo 2 (by decide) (by decide), md]
    simp only [fb_sm, Nat.zero_add]
theorem rfl_ct {D : Nat → Nat} {M c : Nat} (hc : D 2 ≤ c ∧ c ≤ D 2 + 3) : bct (rfl_ D M c) = clA M (c - D 2) := by
  rw [bct, ct_big (m := 12) (rfl_lt D M c) (by decide)]
  exact fb_ct_cong fun f hf => by rw [rfl_bit, decide_eq_true hc, Bool.true_and, decide_eq_true hf, Bool.true_and]
theorem ctU (q : Nat → Bool) {f : Nat} (hf : f < 12) : fb_ct (fun f' => q f' && decide (f < f')) 12 = fb_ct (fun k => q (f + 1 + k)) (11 - f) := by
  have e := fb_ct_split (fun f' => q f' && decide (f < f')) (f + 1) (11 - f)
  have e0 : fb_ct (fun f' => q f' && decide (f < f')) (f + 1) = 0 := fb_ct_zero.mpr (fun k hk => by rw [decide_eq_false (show ¬ f < k by omega), Bool.and_false])
  rw [show f + 1 + (11 - f) = 12 by omega, e0, Nat.zero_add] at e
  rw [e]
  exact fb_ct_cong fun k _ => by rw [decide_eq_true (show f < f + 1 + k by omega), Bool.and_true]
theorem rfl_up {D : Nat → Nat} {M c f : Nat} (hc : D 2 ≤ c ∧ c ≤ D 2 + 3) (hf : f < 12) : bct (rfl_ D M c / 2 ^ (f + 1)) = clB M (c - D 2) f := by
  have lt : rfl_ D M c / 2 ^ (f + 1) < 2 ^ (11 - f) := by
    have := rfl_lt D M c
    rw [Nat.div_lt_iff_lt_mul (Nat.two_pow_pos _), ← Nat.pow_add, show 11 - f + (f + 1) = 12 by omega]
    exact this
  rw [bct, ct_big lt (by omega), clB]
  rw [ctU (fun f' => M.testBit (12 * (c - D 2) + f')) hf]
  exact fb_ct_cong fun k hk => by
    rw [Nat.testBit_div_two_pow, rfl_bit, decide_eq_true hc, Bool.true_and, decide_eq_true (show k + (f + 1) < 12 by omega), Bool.true_and, Nat.add_comm k]
/-- what of a drop's water goes on a pane -/
def wtr (s W P : Nat) : Int32 := if nI s < nI W - nI W / nI P * nI P then nI W / nI P + 1 else nI W / nI P + 0
section
variable {X : av_X} {d : Nat} {h : av_H}
theorem wat_lp (w : WF h) {i M N f c : Nat} {D : Nat → Nat} (hi : i < 60) (P : dpc h i D M) (B : dpb D M N) (hf : f < 12) (hc : D 2 ≤ c ∧ c ≤ D 2 + 3) (h10 : c < 10) : ∀ n j, j + n = c - D 2 → bd X (d + 2) 12 10 [(0, vr (some (77 + i))), (1, vi (nI f)), (2, vi (nI c)), (3, vi (nI (fb_sm (clA M) j))), (4, vi (nI (D 2 + j)))] [] h = av_rI (wtr (fb_sm (clA M) (c - D 2) + clB M (c - D 2) f) (D 17) (D 12)) h
  | 0, j, hj => by
    obtain rfl : j = c - D 2 := by omega
    have lt := rfl_lt D M c
    obtain ⟨-, -, b2, -, -, -, -, -, -, -, -, -, -, b12, b12', -, -, -, -, b17, bM, -⟩ := B
    have ct := fb_ct_le (fun i => M.testBit i) 64
    have c12 : D 12 ≤ 64 := by rw [b12]; exact ct
    have dl : rfl_ D M c / 2 ^ (f + 1) ≤ rfl_ D M c := Nat.div_le_self _ _
    have nz : ¬ nI (D 12) = 0 := nI_ne0 (by omega) (by omega)
    rw [b_12_10, if_neg (nI_nlt (by omega) (by omega)), dr_is w hi, c_rFl' w hi P (by omega) b2 bM, nI_1, sl32 (by omega) (by omega), c_bc32' (by omega), rfl_up hc hf, dr_g w hi P.1 (by decide), dr_g w hi P.1 (by decide), if_neg nz, dr_g w hi P.1 (by decide), dr_g w hi P.1 (by decide), if_neg nz, nI_add, wtr]
    split <;> rfl
  | n + 1, j, hj => by
    have ih := wat_lp w hi P B hf hc h10 n (j + 1) (by omega)
    have lt := rfl_lt D M (D 2 + j)
    obtain ⟨-, -, b2, -, -, -, -, -, -, -, -, -, -, -, -, -, -, -, -, -, bM, -⟩ := B
    rw [b_12_10, if_pos (nI_lt (by omega) (by omega)), dr_is w hi, c_rFl' w hi P (by omega) b2 bM, c_bc32' (by omega), rfl_ct (by omega), nI_add, nI_1, show D 2 + j - D 2 = j by omega]
    exact ih
theorem c_wat {i M N f c : Nat} {D : Nat → Nat} (w : WF h) (hi : i < 60) (P : dpc h i D M) (B : dpb D M N) (hf : f < 12) (hc : D 2 ≤ c ∧ c ≤ D 2 + 3) (h10 : c < 10) : ev X (d + 3) 12 [vr (some (77 + i)), vi (nI f), vi (nI c)] h = av_rI ((wtr (ahd D N f c 48) (D 17) (D 12))) h := by
  obtain ⟨-, -, -, -, -, -, -, -, -, -, -, -, -, b12, b12', -⟩ := id B
  have ct := fb_ct_le (fun i => M.testBit i) 64
  have c12 : D 12 ≤ 64 := by rw [b12]; exact ct
  rw [e_12, b_12_0, dr_g w hi P.1 (by decide), if_pos (show (0 : Int32) < nI (D 12) from nI_lt (a := 0) (by omega) (by omega)), dr_g w hi P.1 (by decide), ahd_eq B hc]
  exact wat_lp w hi P B hf hc h10 (c - D 2) 0 (by omega)
theorem c_wat' {i M N f c : Nat} {D : Nat → Nat} (w : WF h) (hi : i < 60) (P : dpc h i D M) (B : dpb D M N) (hf : f < 12) (hc : D 2 ≤ c ∧ c ≤ D 2 + 3) (h10 : c < 10) {β : Type} (Kc : Int32 × av_H → Option β) : (av_cI (ev X (d + 3) 12 [vr (some (77 + i)), vi (nI f), vi (nI c)] h)).bind Kc = Kc ((wtr (ahd D N f c 48) (D 17) (D 12)), h) := by rw [c_wat w hi P B hf hc h10]; rfl
theorem ahd_lp (w : WF h) {i M N f c : Nat} {D : Nat → Nat} (hi : i < 60) (P : dpr h i D N) (B : dpb D M N) (hf : f < 12) (hc : c < 10) : ∀ n j, j + n = 48 → bd X d 360 4 [(0, vr (some 137)), (1, vi (nI i)), (2, vi (nI f)), (3, vi (nI c)), (4, vi (nI (ahd D N f c j))), (5, vi (nI j))] [] h = av_rI (nI (ahd D N f c 48)) h
  | 0, j, hj => by
    obtain rfl : j = 48 := by omega
    rw [b_360_4, if_neg (by decide)]
  | n + 1, j, hj => by
    have ih := ahd_lp w hi P B hf hc n (j + 1) (by omega)
    obtain ⟨-, -, p2, -, -, -, -, -, -, -, -, -, -, -, -, -, -, p18⟩ := P
    obtain ⟨-, -, b2, -, -, -, -, -, -, -, -, -, -, -, -, -, -, -, -, -, bM, bN, -⟩ := B
    have bl := bitL (n := N) (k := j) (by omega) (by omega)
    rw [ahd, fb_ct_succ] at ih
    have e30 : ∀ y : Bool, (decide (D 2 + j % 4 < c) || (decide (D 2 + j % 4 = c) && decide (f < j / 4))) = y → bd X d 360 30 [(0, vr (some 137)), (1, vi (nI i)), (2, vi (nI f)), (3, vi (nI c)), (4, vi (nI (ahd D N f c j))), (5, vi (nI j))] [vi (bI y)] h = av_rI (nI (ahd D N f c 48)) h := fun y hy => by
      rw [hy] at ih
      rw [b_360_30, gR_137_63 w, ld_185 w hi, p18, nI_1, nI_1, Int32.add_zero]
      by_cases q : N.testBit j = true
      · rw [if_pos (bl.mpr q)]
        rw [q, Bool.true_and] at ih
        cases y with
        | false =>
          rw [if_pos (show bI false = 0 from rfl)]
          exact ih
        | true =>
          rw [if_neg (show ¬ bI true = 0 by decide)]
          exact ih
      · rw [if_neg (fun z => q (bl.mp z))]
        rw [Bool.eq_false_iff.mpr q, Bool.false_and] at ih
        exact ih
    have f0 := e30 false
    have f1 := e30 true
    rw [bI_f] at f0
    rw [bI_t] at f1
    rw [b_360_4, if_pos (show nI j < (48 : Int32) from nI_lt (b := 48) (by omega) (by omega)), gR_137_48 w, ld_170 w hi, p2, if_neg (by decide), lit_4, pk_rem (by omega) (by omega) (by omega), nI_add, pk_div (by omega) (by omega) (by omega)]
    by_cases q1 : D 2 + j % 4 < c
    · rw [if_pos (nI_lt q1 (by omega)), b_360_27]
      exact f1 (by rw [decide_eq_true q1, Bool.true_or])
    · rw [if_neg (nI_nlt (by omega) (by omega))]
      by_cases q2 : D 2 + j % 4 = c
      · rw [if_pos (congrArg nI q2), ← lit_4, if_neg (by decide)]
        by_cases q3 : f < j / 4
        · rw [if_pos (nI_lt q3 (by omega)), b_360_27]
          exact f1 (by rw [decide_eq_true q2, decide_eq_true q3, Bool.true_and, Bool.or_true])
        · rw [if_neg (nI_nlt (by omega) (by omega)), b_360_29]
          exact f0 (by rw [decide_eq_false q1, decide_eq_false q3, Bool.and_false, Bool.or_false])
      · rw [if_neg (fun z => q2 ((nI_eq (by omega) (by omega)).mp z)), b_360_29]
        exact f0 (by rw [decide_eq_false q1, decide_eq_false q2, Bool.false_and, Bool.or_false])
theorem s_ahd {i M N f c : Nat} {D : Nat → Nat} (w : WF h) (hi : i < 60) (P : dpr h i D N) (B : dpb D M N) (hf : f < 12) (hc : c < 10) : ev X (d + 1) 360 [vr (some 137), vi (nI i), vi (nI f), vi (nI c)] h = av_rI (nI (ahd D N f c 48)) h := by
  rw [e_360, b_360_0]
  exact ahd_lp w hi P B hf hc 48 0 (by omega)
theorem s_ahd' {i M N f c : Nat} {D : Nat → Nat} (w : WF h) (hi : i < 60) (P : dpr h i D N) (B : dpb D M N) (hf : f < 12) (hc : c < 10) {β : Type} (Kc : Int32 × av_H → Option β) : (av_cI (ev X (d + 1) 360 [vr (some 137), vi (nI i), vi (nI f), vi (nI c)] h)).bind Kc = Kc (nI (ahd D N f c 48), h) := by rw [s_ahd w hi P B hf hc]; rfl
theorem water_lp {g : av_H} {m : Nat} {D : Nat → Nat → Nat} {M N : Nat → Nat} (E : EN h g m D M N) {t s f c : Nat} (ht : t < 6) (hs : s < 4) (hf : f < 12) (hc : c < 10) (a b : Int32) {d' : Nat} : ∀ n i (v : Int32), i + n = m → ∃ r,
    bd X (d + 3) 174 17 [(0, vr (some 0)), (1, vi (nI t)), (2, vi (nI s)), (3, vi (nI f)), (4, vi (nI c)), (5, vi a), (6, vi b), (7, vi v), (8, vi (nI i))] [] h = av_rI r h ∧
    bd X (d' + 1) 361 25 [(0, vr (some 137)), (1, vi (nI t)), (2, vi (nI s)), (3, vi (nI f)), (4, vi (nI c)), (5, vi a), (6, vi b), (7, vi v), (8, vi (nI i))] [] g = av_rI r g
  | 0, i, v, hi => by
    obtain ⟨w, w', Bd, C, R⟩ := E
    have h60 := Bd.1
    refine ⟨v, ?_, ?_⟩
    · rw [b_174_17, gIv_0_17 w C.1, if_neg (nI_nlt (by omega) (by omega))]
    · rw [b_361_25, gIv_137_45 w' R.1, if_neg (nI_nlt (by omega) (by omega))]
  | n + 1, i, v, hi => by
    have ih := fun v => water_lp E ht hs hf hc a b (d' := d') n (i + 1) v (by omega)
    obtain ⟨w, w', Bd, ⟨c17, C⟩, ⟨r45, R⟩⟩ := E; have h60 := Bd.1; have lt : i < m := (by omega); have dB := Bd.2.1 i (by omega); have P := C i (by omega); have hD := P.1; have Q := R i (by omega); obtain ⟨p0, p1, p2, p4, p5, p6, p7, p8, p9, p12, p15, p16, p17, p13, p14, p10, p11, p18⟩ := R i (by omega)
    obtain ⟨b0, b1, b2, -, -, -, -, -, -, -, -, -, -, b12, b12', -, -, -, -, b17, bM, -⟩ := id dB
    have ct := fb_ct_le (fun j => (M i).testBit j) 64
    have c12 : D i 12 ≤ 64 := by rw [b12]; exact ct
    have nz : ¬ nI (D i 12) = 0 := nI_ne0 (by omega) (by omega)
    rcases bdi (rg (nI (D i 4)) a.toInt b.toInt) with q1 | q1
    · obtain ⟨r, e1, e2⟩ := ih v
      refine ⟨r, ?_, ?_⟩
      · rw [b_174_17]
        simp (disch := first | ((repeat (first | with_reducible apply WF_uI | with_reducible apply WF_uL | with_reducible apply WF_th | with_reducible apply WF_fillL | with_reducible apply WF_fgt)); with_reducible assumption) | omega | (simp only [uI_1, uL_1, th_1, uI_R, uL_R]; with_reducible assumption)) only [↓gIv_0_17 (v := nI m), nI_ltI, lt, ↓gR_0_13, ↓dr_l, ↓dr_is, ↓dr_g (D := D i), ↓c_within', ↓reduceIte, i10, av_cI_r, av_cL_r, av_cV_r, Option.bind_some, ↓zb_0, ↓zb_1, ↓zb_b, bI_0, Bool.true_eq_false, nI_1,  q1, e1]
      · rw [b_361_25]
        simp (disch := first | ((repeat (first | with_reducible apply WF_uI | with_reducible apply WF_uL | with_reducible apply WF_th | with_reducible apply WF_fillL | with_reducible apply WF_fgt)); with_reducible assumption) | omega | (simp only [uI_1, uL_1, th_1, uI_R, uL_R]; with_reducible assumption)) only [↓gIv_137_45 (v := nI m), nI_ltI, lt, ↓is_137, ↓s_within', ↓reduceIte, i10, av_cI_r, av_cL_r, av_cV_r, Option.bind_some, ↓zb_0, ↓zb_1, ↓zb_b, bI_0, Bool.true_eq_false, nI_1, p0, p1, p2, p4, p5, p6, p7, p8, p9, p12, p15, p16, p17, p13, p14, p10, p11,  ↓gR_137_49, ↓ld_171, q1, e2]
    · rcases bdi (rch (D i) (M i) t s f c) with q2 | q2
      · obtain ⟨r, e1, e2⟩ := ih v
        refine ⟨r, ?_, ?_⟩
        · rw [b_174_17]
          simp (disch := first | ((repeat (first | with_reducible apply WF_uI | with_reducible apply WF_uL | with_reducible apply WF_th | with_reducible apply WF_fillL | with_reducible apply WF_fgt)); with_reducible assumption) | omega | (simp only [uI_1, uL_1, th_1, uI_R, uL_R]; with_reducible assumption)) only [↓gIv_0_17 (v := nI m), nI_ltI, lt, ↓gR_0_13, ↓dr_l, ↓dr_is, ↓dr_g (D := D i), ↓c_within', ↓reduceIte, i10, av_cI_r, av_cL_r, av_cV_r, Option.bind_some, ↓zb_0, ↓zb_1, ↓zb_b, bI_0, Bool.true_eq_false, nI_1,  ↓c_hasR' (D := D i) (M := M i), q1, q2, e1]
        · rw [b_361_25]
          simp (disch := first | ((repeat (first | with_reducible apply WF_uI | with_reducible apply WF_uL | with_reducible apply WF_th | with_reducible apply WF_fillL | with_reducible apply WF_fgt)); with_reducible assumption) | omega | (simp only [uI_1, uL_1, th_1, uI_R, uL_R]; with_reducible assumption)) only [↓gIv_137_45 (v := nI m), nI_ltI, lt, ↓is_137, ↓s_within', ↓reduceIte, i10, av_cI_r, av_cL_r, av_cV_r, Option.bind_some, ↓zb_0, ↓zb_1, ↓zb_b, bI_0, Bool.true_eq_false, nI_1, p0, p1, p2, p4, p5, p6, p7, p8, p9, p12, p15, p16, p17, p13, p14, p10, p11,  ↓s_didR' (D := D i) (M := M i) (N := N i), ↓gR_137_49, ↓ld_171, q1, q2, e2]
      · have hcc : D i 2 ≤ c ∧ c ≤ D i 2 + 3 := by
          simp only [rch, Bool.and_eq_true, decide_eq_true_eq] at q2
          exact q2.2.2.1
        obtain ⟨r, e1, e2⟩ := ih (v + wtr (ahd (D i) (N i) f c 48) (D i 17) (D i 12))
        refine ⟨r, ?_, ?_⟩
        · rw [b_174_17]
          simp (disch := first | ((repeat (first | with_reducible apply WF_uI | with_reducible apply WF_uL | with_reducible apply WF_th | with_reducible apply WF_fillL | with_reducible apply WF_fgt)); with_reducible assumption) | omega | (simp only [uI_1, uL_1, th_1, uI_R, uL_R]; with_reducible assumption)) only [↓gIv_0_17 (v := nI m), nI_ltI, lt, ↓gR_0_13, ↓dr_l, ↓dr_is, ↓dr_g (D := D i), ↓c_within', ↓reduceIte, i10, av_cI_r, av_cL_r, av_cV_r, Option.bind_some, ↓zb_0, ↓zb_1, ↓zb_b, bI_0, Bool.true_eq_false, nI_1,  ↓c_hasR' (D := D i) (M := M i), ↓c_wat' (D := D i) (M := M i) (N := N i), q1, q2, e1]
        · rw [b_361_25, ← e2]
          simp (disch := first | ((repeat (first | with_reducible apply WF_uI | with_reducible apply WF_uL | with_reducible apply WF_th | with_reducible apply WF_fillL | with_reducible apply WF_fgt)); with_reducible assumption) | omega | (simp only [uI_1, uL_1, th_1, uI_R, uL_R]; with_reducible assumption)) only [↓gIv_137_45 (v := nI m), nI_ltI, lt, ↓is_137, ↓s_within', ↓reduceIte, i10, av_cI_r, av_cL_r, av_cV_r, Option.bind_some, ↓zb_0, ↓zb_1, ↓zb_b, bI_0, Bool.true_eq_false, nI_1, p0, p1, p2, p4, p5, p6, p7, p8, p9, p12, p15, p16, p17, p13, p14, p10, p11,  ↓s_didR' (D := D i) (M := M i) (N := N i), ↓s_ahd' (D := D i) (M := M i) (N := N i), ↓gR_137_49, ↓gR_137_55, ↓gR_137_58, ↓ld_171, ↓ld_177, ↓ld_180, q1, q2, nz, wtr]
          split <;> rfl
def okWt (h : av_H) (t s f c a b : Int32) : Bool := isPan h t s f c && dys a b
theorem water_ok (w : WF h) (J : J_tow h) (Dp : J_dp h) (t s f c a b : Int32) : ∃ v h1 h2, ev X (d + 5) 174 [vr (some 0), vi t, vi s, vi f, vi c, vi a, vi b] h = av_rI v h1 ∧ ev X (d + 5) 361 [vr (some 137), vi t, vi s, vi f, vi c, vi a, vi b] h1 = av_rI v h2 ∧ WF h2 ∧ off false [] [(137, 0)] h h2 := by
  have J2 := J.R.th
  have hk : (a ≤ b) = ¬ b < a := by simp only [eq_iff_iff]; exact Int32.not_lt.symm
  cases ok : okWt h t s f c a b with
  | false =>
    refine ⟨-1, h, th h, ?_, ?_, w, agr.uI rfl agr.rfl⟩
    · rcases bdi (isPan h t s f c) with q1 | q1
      · simp (disch := first | ((repeat (first | with_reducible apply WF_uI | with_reducible apply WF_uL | with_reducible apply WF_th | with_reducible apply WF_fillL | with_reducible apply WF_fgt)); with_reducible assumption) | omega | (simp only [uI_1, uL_1, th_1, uI_R, uL_R]; with_reducible assumption)) only [e_174, b_174_0, ↓is_0, ↓c_isPane', ↓c_areDays', dys_e, ↓reduceIte, i10, av_cI_r, av_cL_r, av_cV_r, Option.bind_some, ↓zb_0, ↓zb_1, ↓zb_b, bI_0, q1, Bool.true_eq_false]
      rcases bdi (dys a b) with q2 | q2
      · simp (disch := first | ((repeat (first | with_reducible apply WF_uI | with_reducible apply WF_uL | with_reducible apply WF_th | with_reducible apply WF_fillL | with_reducible apply WF_fgt)); with_reducible assumption) | omega | (simp only [uI_1, uL_1, th_1, uI_R, uL_R]; with_reducible assumption)) only [e_174, b_174_0, ↓is_0, ↓c_isPane', ↓c_areDays', dys_e, ↓reduceIte, i10, av_cI_r, av_cL_r, av_cV_r, Option.bind_some, ↓zb_0, ↓zb_1, ↓zb_b, bI_0, q1, q2, Bool.true_eq_false]
      simp [okWt, q1, q2] at ok
    · rcases bdi (isPan h t s f c) with q1 | q1
      · simp (disch := first | ((repeat (first | with_reducible apply WF_uI | with_reducible apply WF_uL | with_reducible apply WF_th | with_reducible apply WF_fillL | with_reducible apply WF_fgt)); with_reducible assumption) | omega | (simp only [uI_1, uL_1, th_1, uI_R, uL_R]; with_reducible assumption)) only [e_361, b_361_0, ↓pI_137, th_e, ↓is_137, ↓s_isPane', ↓s_isDay', ↓reduceIte, i10, av_cI_r, av_cL_r, av_cV_r, Option.bind_some, ↓zb_0, ↓zb_1, ↓zb_b, bI_0, isPan_th, q1, Bool.true_eq_false]
      rcases bdi (rg a 0 99) with q2 | q2
      · simp (disch := first | ((repeat (first | with_reducible apply WF_uI | with_reducible apply WF_uL | with_reducible apply WF_th | with_reducible apply WF_fillL | with_reducible apply WF_fgt)); with_reducible assumption) | omega | (simp only [uI_1, uL_1, th_1, uI_R, uL_R]; with_reducible assumption)) only [e_361, b_361_0, ↓pI_137, th_e, ↓is_137, ↓s_isPane', ↓s_isDay', ↓reduceIte, i10, av_cI_r, av_cL_r, av_cV_r, Option.bind_some, ↓zb_0, ↓zb_1, ↓zb_b, bI_0, isPan_th, q1, q2, Bool.true_eq_false]
      rcases bdi (rg b 0 99) with q3 | q3
      · simp (disch := first | ((repeat (first | with_reducible apply WF_uI | with_reducible apply WF_uL | with_reducible apply WF_th | with_reducible apply WF_fillL | with_reducible apply WF_fgt)); with_reducible assumption) | omega | (simp only [uI_1, uL_1, th_1, uI_R, uL_R]; with_reducible assumption)) only [e_361, b_361_0, ↓pI_137, th_e, ↓is_137, ↓s_isPane', ↓s_isDay', ↓reduceIte, i10, av_cI_r, av_cL_r, av_cV_r, Option.bind_some, ↓zb_0, ↓zb_1, ↓zb_b, bI_0, isPan_th, q1, q2, q3, Bool.true_eq_false]
      rcases Classical.em (b < a) with q5 | q5
      · simp (disch := first | ((repeat (first | with_reducible apply WF_uI | with_reducible apply WF_uL | with_reducible apply WF_th | with_reducible apply WF_fillL | with_reducible apply WF_fgt)); with_reducible assumption) | omega | (simp only [uI_1, uL_1, th_1, uI_R, uL_R]; with_reducible assumption)) only [e_361, b_361_0, ↓pI_137, th_e, ↓is_137, ↓s_isPane', ↓s_isDay', ↓reduceIte, i10, av_cI_r, av_cL_r, av_cV_r, Option.bind_some, ↓zb_0, ↓zb_1, ↓zb_b, bI_0, isPan_th, q1, q2, q3, q5, Bool.true_eq_false]
      simp [okWt, dys, hk, q1, q2, q3, q5] at ok
  | true =>
    obtain ⟨q1, q2⟩ : isPan h t s f c = true ∧ dys a b = true := by simpa only [okWt, Bool.and_eq_true] using ok
    obtain ⟨⟨q3, q4⟩, q5⟩ : (rg a 0 99 = true ∧ rg b 0 99 = true) ∧ ¬ b < a := by simpa only [dys, hk, Bool.and_eq_true, decide_eq_true_eq] using q2
    obtain ⟨t, s, f, c, b1, b2, b3, b4, rfl, rfl, rfl, rfl⟩ := pan_ex J q1
    obtain ⟨m, D, M, N, E, W⟩ := Dp.EN w
    obtain ⟨v, e1, e2⟩ := water_lp (X := X) (d := d + 1) (d' := d + 3) E b1 b2 b3 b4 a b m 0 0 (by omega)
    refine ⟨v, h, th h, ?_, ?_, w, agr.uI rfl agr.rfl⟩
    · simp (disch := first | ((repeat (first | with_reducible apply WF_uI | with_reducible apply WF_uL | with_reducible apply WF_th | with_reducible apply WF_fillL | with_reducible apply WF_fgt)); with_reducible assumption) | omega | (simp only [uI_1, uL_1, th_1, uI_R, uL_R]; with_reducible assumption)) only [e_174, b_174_0, ↓is_0, ↓c_isPane', ↓c_areDays', dys_e, ↓reduceIte, i10, av_cI_r, av_cL_r, av_cV_r, Option.bind_some, ↓zb_0, ↓zb_1, ↓zb_b, bI_0, q1, q2, Bool.true_eq_false]
      exact e1
    · simp (disch := first | ((repeat (first | with_reducible apply WF_uI | with_reducible apply WF_uL | with_reducible apply WF_th | with_reducible apply WF_fillL | with_reducible apply WF_fgt)); with_reducible assumption) | omega | (simp only [uI_1, uL_1, th_1, uI_R, uL_R]; with_reducible assumption)) only [e_361, b_361_0, ↓pI_137, th_e, ↓is_137, ↓s_isPane', ↓s_isDay', ↓reduceIte, i10, av_cI_r, av_cL_r, av_cV_r, Option.bind_some, ↓zb_0, ↓zb_1, ↓zb_b, bI_0, isPan_th, q1, q3, q4, q5, Bool.true_eq_false]
      exact e2
end
