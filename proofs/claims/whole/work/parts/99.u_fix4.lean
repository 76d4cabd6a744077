/-! fixed -/
/-- the class's memory of the fixed row -/
def FX (n c : Nat) (p S W : Nat → Nat) (ch : Nat → Nat → Nat) (h : av_H) : Prop := h.2.2.1 46 1 = -1 ∨ (h.2.2.1 46 1 = oL (brS (rV n c p S W ch) 3125).2 ∧ h.2.1 46 3 = nI (brS (rV n c p S W ch) 3125).1)
theorem FX.fr {n c : Nat} {p S W : Nat → Nat} {ch : Nat → Nat → Nat} {h h' : av_H} (F : FX n c p S W ch h) (A : agr (FP false [] [(46, 1), (46, 3)]) h h') : FX n c p S W ch h' := by
  unfold FX at F ⊢
  rw [A.L rfl, A.I rfl]
  exact F
/-- what is answered -/
def fxA (best : Nat × Option Nat) (k : Nat) : Int64 := if k < 2 then lwT (best.2.getD 0) 100000 (nI k) else (if dgN best.1 (k - 2) < 4 then nI (dgN best.1 (k - 2)) else -1).toInt64
theorem brS_lt {v : Nat → Nat} : ∀ row, 0 < row → (brS v row).1 < row
  | 0, h => absurd h (by omega)
  | row + 1, _ => by
    rw [brS]
    by_cases z : brB v row (brS v row).2 = true
    · rw [if_pos z]
      show row < row + 1
      omega
    · rw [if_neg z]
      by_cases y : row = 0
      · rw [y]
        show 0 < 0 + 1
        decide
      · have := brS_lt (v := v) row (by omega)
        omega
section
variable {X : av_X} {d : Nat} {n c : Nat} {p S W : Nat → Nat} {ch tn : Nat → Nat → Nat} {h : av_H}
/-- the best row by some tens -/
theorem c_row (T : XT X) (w : WF h) (hL : h.1.length ≤ 1000000) (O : wnO n p S W) (C : wnC h n p S W) (hc : h.2.1 46 4 = nI c) (c8 : c ≤ 8) {ta : Nat} (hta : ta = 50 ∨ ta = 51) (ht : ∀ e s, e < 5 → s < 4 → tn e s ≤ 10 ∧ h.2.1 ta (e * 4 + s) = nI (tn e s)) : ∃ h', WF h' ∧ off false [53, 54, 55] [(46, 14), (46, 15)] h h' ∧ h'.1 = h.1 ∧ h'.2.1 46 14 = nI (brS (rV n c p S W tn) 3125).1 ∧ h'.2.2.1 46 15 = oL (brS (rV n c p S W tn) 3125).2 ∧ ev X (d + 4) 59 [vr (some 46), vr (some ta)] h = av_rV h' := by
  obtain ⟨h1, w1, O1, H1, e1⟩ := fs_lp (X := X) (d := d) (h0 := h) O C hc c8 hta ht 4 0 h (by omega) w offQ.r (fun s' x _ _ y => absurd y (by omega))
  have w2 : WF (av_uL (av_uI h1 46 14 0) 46 15 (-1)) := WF_uL (WF_uI w1)
  obtain ⟨h2, w2', O2, l2, X1, X2, e2⟩ := rb_lp (X := X) (d := d) (h0 := h) T hL O (fun e s he hs => (ht e s he hs).1) 3125 0 (av_uL (av_uI h1 46 14 0) 46 15 (-1)) (by omega) w2 (agr.uL rfl (agr.uI rfl (O1.1.up (by decide)))) O1.2 H1 (by
    show (av_uI h1 46 14 0).2.1 46 14 = nI 0
    exact uI_eq) uL_eq
  refine ⟨h2, w2', O2, l2, X1, X2, ?_⟩
  rw [e_59, b_59_0]
  exact e1.trans e2
theorem c_findF (T : XT X) (w : WF h) (hL : h.1.length ≤ 1000000) (P : PD n c p S W ch h) (F : FX n c p S W ch h) : ∃ h', WF h' ∧ off false [53, 54, 55] [(46, 1), (46, 3), (46, 14), (46, 15)] h h' ∧ h'.1 = h.1 ∧ h'.2.2.1 46 1 = oL (brS (rV n c p S W ch) 3125).2 ∧ h'.2.1 46 3 = nI (brS (rV n c p S W ch) 3125).1 ∧ ev X (d + 5) 55 [vr (some 46)] h = av_rV h' := by
  have hch : ∀ e s, e < 5 → s < 4 → ch e s ≤ 10 := fun e s he hs => (P.2.2.2.2.2 e s he hs).1
  have vb : ∀ r, rV n c p S W ch r < 500000000 := fun r => rF_lt P.1 hch (Nat.le_refl _)
  obtain ⟨m, em⟩ := brS_s (v := rV n c p S W ch) 3125 (by decide)
  have mb := (brS_b vb 3125).2 m em
  by_cases z : h.2.2.1 46 1 = -1
  · obtain ⟨h1, w1, O1, l1, X1, X2, e1⟩ := c_row (X := X) (d := d) (tn := ch) T w hL P.1 P.2.1 P.2.2.2.1.1 P.2.2.2.2.1.2 (Or.inl rfl) (fun e s he hs => ⟨(P.2.2.2.2.2 e s he hs).1, (P.2.2.2.2.2 e s he hs).2.1⟩)
    have w2 : WF (av_uI h1 46 3 (nI (brS (rV n c p S W ch) 3125).1)) := WF_uI w1
    refine ⟨av_uL (av_uI h1 46 3 (nI (brS (rV n c p S W ch) 3125).1)) 46 1 (oL (brS (rV n c p S W ch) 3125).2), WF_uL w2, agr.uL rfl (agr.uI rfl (O1.up (by decide))), l1, uL_eq, ?_, ?_⟩
    · show (av_uI h1 46 3 (nI (brS (rV n c p S W ch) 3125).1)).2.1 46 3 = _
      exact uI_eq
    · rw [e_55, b_55_0, gL_46_1 w, z, if_pos (show lg_cmp (-1) (-1) = 0 by decide), gR_46_8 w, is_46 w, e1, av_cV_r, Option.bind_some, gI_46_14 w1, X1, pI_46 w1, gL_46_15 w2]
      show (av_pL (av_uI h1 46 3 (nI (brS (rV n c p S W ch) 3125).1)) (some 46) 4 1 (h1.2.2.1 46 15)).bind _ = _
      rw [X2, pL_46 w2]
  · rcases F with y | ⟨y1, y2⟩
    · exact absurd y z
    · refine ⟨h, w, agr.rfl, rfl, y1, y2, ?_⟩
      have ne : ¬ lg_cmp (oL (brS (rV n c p S W ch) 3125).2) (-1) = 0 := fun u => by
        rw [lg_cmp_eq, ← y1] at u
        exact z u
      rw [e_55, b_55_0, gL_46_1 w, y1, if_neg ne]
theorem c_fside (T : XT X) (w : WF h) (hL : h.1.length ≤ 1000000) {row e : Nat} (hr : row < 3125) (e5 : e < 5) (h3 : h.2.1 46 3 = nI row) : ev X (d + 4) 56 [vr (some 46), vi (nI e)] h = av_rI (if dgN row e < 4 then nI (dgN row e) else -1) h := by
  have d5 : dgN row e < 5 := Nat.mod_lt _ (by decide)
  rw [e_56, b_56_0, gI_46_3 w, h3, e_58, b_58_0, c_digit T hL hr e5, av_cI_r, Option.bind_some]
  by_cases z : dgN row e < 4
  · rw [if_pos z, if_pos (show nI (dgN row e) < 4 from nI_lt (b := 4) z (by omega)), av_cI_r, Option.bind_some]
  · rw [if_neg z, if_neg (show ¬ nI (dgN row e) < 4 from nI_nlt (b := 4) (by omega) (by omega)), av_cI_r, Option.bind_some]
theorem c_fixed (T : XT X) (w : WF h) (hL : h.1.length ≤ 1000000) (P : PD n c p S W ch h) (F : FX n c p S W ch h) {k : Nat} (k7 : k < 7) : ∃ h', WF h' ∧ off false [53, 54, 55] [(46, 1), (46, 3), (46, 14), (46, 15)] h h' ∧ h'.1 = h.1 ∧ FX n c p S W ch h' ∧ ev X (d + 6) 155 [vr (some 0), vi (nI k)] h = av_rL (fxA (brS (rV n c p S W ch) 3125) k) h' := by
  have hch : ∀ e s, e < 5 → s < 4 → ch e s ≤ 10 := fun e s he hs => (P.2.2.2.2.2 e s he hs).1
  have vb : ∀ r, rV n c p S W ch r < 500000000 := fun r => rF_lt P.1 hch (Nat.le_refl _)
  obtain ⟨m, em⟩ := brS_s (v := rV n c p S W ch) 3125 (by decide)
  have mb := (brS_b vb 3125).2 m em
  have bl := brS_lt (v := rV n c p S W ch) 3125 (by decide)
  obtain ⟨h1, w1, O1, l1, X1, X3, e1⟩ := c_findF (X := X) (d := d) T w hL P F
  refine ⟨h1, w1, O1, l1, Or.inr ⟨X1, X3⟩, ?_⟩
  have g : rg (nI k) 0 6 = true := rg_lt2 (n := 6) (by omega) (by omega)
  rw [e_155, b_155_0, c_within', tI_0, tI_6, g, if_neg (show ¬ bI true = 0 by decide), gR_0_9 w, is_46 w, e1, av_cV_r, Option.bind_some, fxA]
  by_cases z : k < 2
  · rw [if_pos z, if_pos (show nI k < 2 from nI_lt (b := 2) z (by omega)), gR_0_9 w1, gL_46_1 w1, X1, em, show (5 : Int32) = nI 5 from rfl, c_tens T (by rw [l1]; exact hL) (by decide), av_cL_r, Option.bind_some, oL, c_low (by omega) (pow10 (Nat.le_refl _)) (by decide), av_cL_r, Option.bind_some]
    rfl
  · rw [if_neg z, if_neg (show ¬ nI k < 2 from nI_nlt (b := 2) (by omega) (by omega)), gR_0_9 w1, is_46 w1, show (2 : Int32) = nI 2 from rfl, pk_sub (by omega), c_fside T w1 (by rw [l1]; exact hL) bl (by omega) X3, av_cI_r, Option.bind_some]
/-! the reference -/
theorem dg_lp {row : Nat} (hr : row < 3125) : ∀ m e v, e + m = 4 → v ≤ row → bd X (d + 1) 331 4 [(2, vi (nI v)), (3, vi (nI e))] [] h = av_rI (nI (v / 5 ^ m % 5)) h
  | 0, e, v, he, hv => by
    obtain rfl : e = 4 := by omega
    rw [b_331_4, if_neg (show ¬ nI 4 < 4 by decide), if_neg (by decide), show (5 : Int32) = nI 5 from rfl, pk_rem (by omega) (by omega) (by omega), Nat.pow_zero, Nat.div_one]
  | m + 1, e, v, he, hv => by
    have dl : v / 5 ≤ v := Nat.div_le_self _ _
    have ih := dg_lp hr m (e + 1) (v / 5) (by omega) (by omega)
    rw [Nat.div_div_eq_div_mul, ← Nat.pow_succ'] at ih
    rw [b_331_4, if_pos (show nI e < 4 from nI_lt (b := 4) (by omega) (by omega)), if_neg (by decide), show (5 : Int32) = nI 5 from rfl, pk_div (by omega) (by omega) (by omega), nI_1]
    exact ih
theorem s_digit {row e : Nat} (hr : row < 3125) (e5 : e < 5) : ev X (d + 2) 331 [vi (nI row), vi (nI e)] h = av_rI (nI (dgN row e)) h := by
  rw [e_331, b_331_0]
  exact dg_lp hr (4 - e) e row (by omega) (Nat.le_refl _)
theorem s_row (w : WF h) (P : PR n c p S W ch h) {row : Nat} (hrow : row < 3125) : ∀ r, r ≤ 5 → ∀ lf, lf < 256 → ev X (d + r + 3) 330 [vr (some 137), vi (nI row), vi (nI (5 - r)), vi (nI lf)] h = av_rL (lN (rF n c p S W ch row r lf)) h
  | 0, _, lf, l8 => by
    rw [e_330, b_330_0, if_pos (show nI (5 - 0) = 5 from rfl), rF]
    rfl
  | r + 1, hr, lf, l8 => by
    obtain ⟨O, R, hc, c8, hch⟩ := P
    have n8 := O.1
    have IH := s_row w ⟨O, R, hc, c8, hch⟩ hrow r (by omega)
    have d5 : dgN row (4 - r) < 5 := Nat.mod_lt _ (by decide)
    rw [show 5 - (r + 1) = 4 - r by omega, show d + (r + 1) + 3 = (d + r + 3) + 1 by omega, e_330, b_330_0, if_neg (show ¬ nI (4 - r) = 5 from fun y => by have := (nI_eq (b := 5) (by omega) (by omega)).mp y; omega), s_digit hrow (by omega), av_cI_r, Option.bind_some, is_137 w, nI_1, show 4 - r + 1 = 5 - r by omega, IH lf l8, av_cL_r, Option.bind_some, rF]
    by_cases z : dgN row (4 - r) = 4
    · rw [if_pos (show nI (dgN row (4 - r)) = 4 by rw [z]; rfl), if_pos z, show (10 : Int64) = lN 10 from rfl, lN_mul]
    · generalize hs : dgN row (4 - r) = s at d5 z
      have s4 : s < 4 := by omega
      have dl := dnM_lt O (c := c) (lf := lf) (s := s)
      have pn : 2 ^ n ≤ 256 := Nat.pow_le_pow_right (n := 2) (by decide) n8
      have nl : nd lf (dnM n p S c lf s) < 256 := nd_lt (n := 8) l8
      have nn : nd lf (nd lf (dnM n p S c lf s)) = dnM n p S c lf s := by
        apply Nat.eq_of_testBit_eq
        intro k
        rw [nd_bit, nd_bit]
        have := nd_0.mp (dnM_sub (n := n) (p := p) (S := S) (c := c) (lf := lf) (s := s)) k
        cases u : (dnM n p S c lf s).testBit k with
        | false => cases lf.testBit k <;> rfl
        | true => rw [this u]; rfl
      have wl := wsN_le O (dnM n p S c lf s)
      have chl := (hch (4 - r) s (by omega) s4).1
      rw [if_neg (show ¬ nI s = 4 from fun y => z ((nI_eq (b := 4) (by omega) (by omega)).mp y)), if_neg z, is_137 w, s_behind w O R hc c8 l8 s4, av_cI_r, Option.bind_some, gR_137_67 w, show (4 : Int32) = nI 4 from rfl, pk_mul, nI_add, ld_188 w (by omega), (hch (4 - r) s (by omega) s4).2, is_137 w, nb_andn, nn, s_worth w O R (by omega), av_cL_r, Option.bind_some, pk_sub (by omega), show 4 - (4 - r) = r by omega, s_tens (by omega), av_cL_r, Option.bind_some, is_137 w, IH _ nl, av_cL_r, Option.bind_some, show (10 : Int32) = nI 10 from rfl, pk_sub chl, nI_l (by omega), nI_l (by omega), lN_mul, lN_add, lN_mul, lN_mul, lN_add]
      rfl
theorem sf_lp (w : WF h) (P : PR n c p S W ch h) {v1 : Int32} : ∀ m row, row + m = 3125 → bd X (d + 8) 332 21 [(0, vr (some 137)), (1, vi v1), (2, vi (nI (brS (rV n c p S W ch) row).1)), (3, vl (oL (brS (rV n c p S W ch) row).2)), (5, vi (nI row))] [] h = bd X (d + 8) 332 21 [(0, vr (some 137)), (1, vi v1), (2, vi (nI (brS (rV n c p S W ch) 3125).1)), (3, vl (oL (brS (rV n c p S W ch) 3125).2)), (5, vi (nI 3125))] [] h
  | 0, row, hr => by
    obtain rfl : row = 3125 := by omega
    rfl
  | m + 1, row, hr => by
    have ih := sf_lp w P (v1 := v1) m (row + 1) (by omega)
    have n8 := P.1.1
    have pn : 2 ^ n ≤ 256 := Nat.pow_le_pow_right (n := 2) (by decide) n8
    have p0 : 0 < 2 ^ n := Nat.two_pow_pos n
    have hch : ∀ e s, e < 5 → s < 4 → ch e s ≤ 10 := fun e s he hs => (P.2.2.2.2 e s he hs).1
    have vb : ∀ r, rV n c p S W ch r < 500000000 := fun r => rF_lt P.1 hch (Nat.le_refl _)
    have bb := brS_b vb row
    have cmp := brB_c (row := row) (by decide) vb bb.2
    have e1 := s_row (X := X) (d := d) w P (show row < 3125 by omega) 5 (Nat.le_refl _) (2 ^ n - 1) (by omega)
    refine Eq.trans ?_ ih
    conv => lhs; rw [b_332_21]
    rw [if_pos (show nI row < 3125 from nI_lt (b := 3125) (by omega) (by omega)), gIv_137_64 w P.2.1.1, is_137 w, nb_sh1 n (by omega), nI_prd p0, show (0 : Int32) = nI (5 - 5) from rfl, show ev X (d + 8) 330 [vr (some 137), vi (nI row), vi (nI (5 - 5)), vi (nI (2 ^ n - 1))] h = av_rL (lN (rF n c p S W ch row 5 (2 ^ n - 1))) h from e1, av_cL_r, Option.bind_some, nI_1, brS]
    by_cases z : brB (rV n c p S W ch) row (brS (rV n c p S W ch) row).2 = true
    · rw [if_pos (show nI (5 - 5) < lg_cmp (lN (rF n c p S W ch row 5 (2 ^ n - 1))) (oL (brS (rV n c p S W ch) row).2) from cmp.mpr z), if_pos z]
      rfl
    · rw [if_neg (show ¬ nI (5 - 5) < lg_cmp (lN (rF n c p S W ch row 5 (2 ^ n - 1))) (oL (brS (rV n c p S W ch) row).2) from fun y => z (cmp.mp y)), if_neg z]
theorem s_fixed (w : WF h) (P : PD n c p S W ch h) {k : Nat} (k7 : k < 7) : ev X (d + 9) 332 [vr (some 137), vi (nI k)] h = av_rL (fxA (brS (rV n c p S W ch) 3125) k) (th h) := by
  have wt : WF (th h) := w
  have Pt : PD n c p S W ch (th h) := P.fr (agr.uI rfl agr.rfl)
  have hch : ∀ e s, e < 5 → s < 4 → ch e s ≤ 10 := fun e s he hs => (P.2.2.2.2.2 e s he hs).1
  have vb : ∀ r, rV n c p S W ch r < 500000000 := fun r => rF_lt P.1 hch (Nat.le_refl _)
  obtain ⟨m, em⟩ := brS_s (v := rV n c p S W ch) 3125 (by decide)
  have mb := (brS_b vb 3125).2 m em
  have bl := brS_lt (v := rV n c p S W ch) 3125 (by decide)
  have lp := sf_lp (X := X) (d := d) (v1 := nI k) wt Pt.R 3125 0 (by omega)
  have g : rg (nI k) 0 6 = true := rg_lt2 (n := 6) (by omega) (by omega)
  have d5 : dgN (brS (rV n c p S W ch) 3125).1 (k - 2) < 5 := Nat.mod_lt _ (by decide)
  rw [e_332, b_332_0, s_within', tI_0, tI_6, g, if_neg (show ¬ bI true = 0 by decide), b_332_9, pI_137 w, th_e, gI_137_0 wt, show (th h).2.1 137 0 = 0 from uI_eq, if_neg (show ¬ (0 : Int32) < 0 by decide)]
  refine Eq.trans lp ?_
  rw [b_332_21, if_neg (show ¬ nI 3125 < 3125 by decide), fxA, em]
  by_cases z : k < 2
  · rw [if_pos z, if_pos (show nI k < 2 from nI_lt (b := 2) z (by omega)), oL, show (100000 : Int64) = lN 100000 from rfl, s_low (by omega) (by decide) (by decide), av_cL_r, Option.bind_some]
    rfl
  · rw [if_neg z, if_neg (show ¬ nI k < 2 from nI_nlt (b := 2) (by omega) (by omega)), show (2 : Int32) = nI 2 from rfl, pk_sub (by omega), s_digit bl (by omega), av_cI_r, Option.bind_some]
    by_cases y : dgN (brS (rV n c p S W ch) 3125).1 (k - 2) < 4
    · rw [if_pos y, if_neg (show ¬ nI (dgN (brS (rV n c p S W ch) 3125).1 (k - 2)) = 4 from fun u => by have := (nI_eq (b := 4) (by omega) (by omega)).mp u; omega)]
    · rw [if_neg y, if_pos (show nI (dgN (brS (rV n c p S W ch) 3125).1 (k - 2)) = 4 by rw [show dgN (brS (rV n c p S W ch) 3125).1 (k - 2) = 4 by omega]; rfl)]
      rfl
theorem fixed_ok (T : XT X) (w : WF h) (P : PD n c p S W ch h) (hL : h.1.length ≤ 1000000) (F : FX n c p S W ch h) (q : Int32) :
    (∃ v h1 h2, ev X (d + 9) 155 [vr (some 0), vi q] h = av_rL v h1 ∧ ev X (d + 9) 332 [vr (some 137), vi q] h1 = av_rL v h2 ∧ h2.2.1 137 0 = 0 ∧ WF h2 ∧ FX n c p S W ch h2 ∧ off false [53, 54, 55] [(46, 1), (46, 3), (46, 14), (46, 15), (137, 0)] h h2) ∨
    (ev X (d + 9) 155 [vr (some 0), vi q] h = av_rX (av_new h 12 0) ∧ ev X (d + 9) 332 [vr (some 137), vi q] (av_new h 12 0) = av_rL 0 (av_uI (av_new h 12 0) 137 0 1)) := by
  cases q1 : rg q 0 6 with
  | false =>
    refine Or.inr ⟨?_, ?_⟩
    · rw [e_155, b_155_0, c_within', tI_0, tI_6, q1, if_pos (show bI false = 0 from rfl)]
    · have wn : WF (av_new h 12 0) := WF_new w
      have w1 : WF (av_uI (av_new h 12 0) 137 0 1) := WF_uI wn
      rw [e_332, b_332_0, s_within', tI_0, tI_6, q1, if_pos (show bI false = 0 from rfl), b_332_9, pI_137 wn, gI_137_0 w1, uI_eq, if_pos (show (0 : Int32) < 1 by decide)]
  | true =>
    obtain ⟨k, hk, rfl⟩ := rg_nI (b := 6) (by decide) q1
    obtain ⟨h1, w1, o1, l1, F1, e1⟩ := c_fixed (X := X) (d := d + 3) T w hL P F (show k < 7 by omega)
    have P1 : PD n c p S W ch h1 := P.fr (o1.fr (by decide))
    exact Or.inl ⟨_, h1, th h1, e1, s_fixed w1 P1 (by omega), uI_eq, w1, F1.fr (agr.uI rfl agr.rfl), agr.uI rfl (o1.up (by decide))⟩
end
