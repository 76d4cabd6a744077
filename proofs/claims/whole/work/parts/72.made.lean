/-! made -/
/-- the longest way to safety, from hour j on -/
def rwF (D : Nat → Nat) : Nat → Nat → Nat → Nat
  | 0, _, v => v
  | n + 1, j, v => rwF D n (j + 1) (Nat.max v (Nat.min (D 3 - (D 3 - D 7 * j - D 7)) (D 3 - D 7 * j)))
theorem rw_lt {F r H j : Nat} (hr : 1 ≤ r) (hF : 1 ≤ F) (hH : H = (F + r - 1) / r) (hj : j < H) : r * j < F := by
  have h1 : r * H ≤ F + r - 1 := by rw [hH]; exact Nat.mul_div_le _ _
  have h2 : r * (j + 1) ≤ r * H := Nat.mul_le_mul_left r hj
  rw [Nat.mul_succ] at h2
  omega
theorem nI_min {a b : Nat} (ha : a < 2147483648) (hb : b < 2147483648) : (if nI b < nI a then nI b else nI a) = nI (Nat.min a b) := by
  by_cases q : b < a
  · rw [if_pos (nI_lt q ha)]
    congr 1
    exact (Nat.min_eq_right (Nat.le_of_lt q)).symm
  · rw [if_neg (nI_nlt (by omega) hb)]
    congr 1
    exact (Nat.min_eq_left (by omega)).symm
theorem nI_m0 {a b : Nat} (ha : a < 100000) (hb : b < 100000) : (if (0 : Int32) < nI a - nI b then nI a - nI b else 0) = nI (a - b) := by
  by_cases q : b ≤ a
  · rw [pk_sub q]
    by_cases z : 0 < a - b
    · rw [if_pos (show (0 : Int32) < nI (a - b) from nI_lt (a := 0) z (by omega))]
    · rw [show a - b = 0 by omega]
      rfl
  · rw [if_neg ?_, show a - b = 0 by omega]
    · rfl
    · rw [i_lt, pk_sub_toInt (by omega) (by omega), tI_0]
      omega
theorem WF_new {h : av_H} {c n : Nat} (w : WF h) : WF (av_new h c n) := by
  have hl := w.len
  obtain ⟨⟨t, ht⟩, w2, w3, w4⟩ := w
  have e : ∀ a, a < 226 → (av_new h c n).2.2.2 a = h.2.2.2 a := fun a ha => va_up_ne _ _ (by omega)
  refine ⟨⟨t ++ [(c, n)], ?_⟩, fun q hq => ?_, fun k hk => ?_, ?_⟩
  · show h.1 ++ [(c, n)] = _
    rw [ht, List.append_assoc]
  · rw [e _ (gP_lt q hq).2]
    exact w2 q hq
  · rw [e _ (by omega)]
    exact w3 k hk
  · rw [e _ (by omega)]
    exact w4
section
variable {X : av_X} {d : Nat} {h : av_H}
theorem rw_c (w : WF h) {i M N : Nat} {D : Nat → Nat} (hi : i < 60) (P : dpc h i D M) (B : dpb D M N) : ∀ n j v, j + n = D 6 → v ≤ 12 → bd X (d + 1) 10 4 [(0, vr (some (77 + i))), (1, vi (nI v)), (2, vi (nI j))] [] h = av_rI (nI (rwF D n j v)) h
  | 0, j, v, hj, _ => by
    obtain ⟨b0, b1, b2, b3, b4, b5, b6, b7, b8, -⟩ := B
    rw [b_10_4, dr_g w hi P.1 (by decide), if_neg (nI_nlt (by omega) (by omega)), rwF]
  | n + 1, j, v, hj, hv => by
    have B' := B
    obtain ⟨b0, b1, b2, b3, b4, b5, b6, b7, b8, -⟩ := B'
    have hl := rw_lt b7.1 b3.1 b8 (show j < D 6 by omega)
    have hm : Nat.min (D 3 - (D 3 - D 7 * j - D 7)) (D 3 - D 7 * j) ≤ 12 := Nat.le_trans (Nat.min_le_right _ _) (by omega)
    rw [b_10_4, dr_g w hi P.1 (by decide), if_pos (nI_lt (by omega) (by omega)), dr_g w hi P.1 (by decide), dr_g w hi P.1 (by decide), dr_g w hi P.1 (by decide), pk_mul, pk_sub (Nat.le_of_lt hl), c_max', nI_m0 (by omega) (by omega), dr_g w hi P.1 (by decide), pk_sub (by omega), c_min', nI_min (by omega) (by omega), c_max', nI_max (by omega) (by omega), nI_1, rwF]
    exact rw_c w hi P B n (j + 1) _ (by omega) (Nat.max_le.mpr ⟨hv, hm⟩)
theorem rw_s (w : WF h) {i M N : Nat} {D : Nat → Nat} (hi : i < 60) (R : dpr h i D N) (B : dpb D M N) : ∀ n j v, j + n = D 6 → v ≤ 12 → bd X (d + 1) 301 12 [(0, vr (some 137)), (1, vi (nI i)), (2, vi (nI v)), (3, vi (nI (D 3))), (4, vi (nI j))] [] h = av_rI (nI (rwF D n j v)) h
  | 0, j, v, hj, _ => by
    obtain ⟨b0, b1, b2, b3, b4, b5, b6, b7, b8, -⟩ := B
    obtain ⟨p0, p1, p2, p4, p5, p6, p7, -⟩ := R
    rw [b_301_12, gR_137_51 w, ld_173 w hi, p6, if_neg (nI_nlt (by omega) (by omega)), rwF]
  | n + 1, j, v, hj, hv => by
    have B' := B
    have R' := R
    obtain ⟨b0, b1, b2, b3, b4, b5, b6, b7, b8, -⟩ := B'
    obtain ⟨p0, p1, p2, p4, p5, p6, p7, -⟩ := R'
    have hl := rw_lt b7.1 b3.1 b8 (show j < D 6 by omega)
    have hm : Nat.min (D 3 - (D 3 - D 7 * j - D 7)) (D 3 - D 7 * j) ≤ 12 := Nat.le_trans (Nat.min_le_right _ _) (by omega)
    have ih := rw_s w hi R B n (j + 1) _ (show j + 1 + n = D 6 by omega) (Nat.max_le.mpr ⟨hv, hm⟩)
    rw [← rwF] at ih
    have k52 : ∀ x, x ≤ 12 → x = Nat.min (D 3 - (D 3 - D 7 * j - D 7)) (D 3 - D 7 * j) → bd X (d + 1) 301 52 [(0, vr (some 137)), (1, vi (nI i)), (2, vi (nI v)), (3, vi (nI (D 3))), (4, vi (nI j))] [vi (nI x)] h = av_rI (nI (rwF D (n + 1) j v)) h := fun x hx ex => by
      rw [← ih, ← ex, ← nI_max (by omega) (by omega), b_301_52, nI_1]
      split <;> rfl
    have k41 : ∀ x, x = D 3 - D 7 * j - D 7 → bd X (d + 1) 301 41 [(0, vr (some 137)), (1, vi (nI i)), (2, vi (nI v)), (3, vi (nI (D 3))), (4, vi (nI j)), (5, vi (nI (D 3 - D 7 * j)))] [vi (nI x)] h = av_rI (nI (rwF D (n + 1) j v)) h := fun x ex => by
      subst ex
      rw [b_301_41, pk_sub (by omega)]
      by_cases z : D 3 - (D 3 - D 7 * j - D 7) < D 3 - D 7 * j
      · rw [if_pos (nI_lt z (by omega))]
        exact k52 _ (by omega) (Nat.min_eq_left (Nat.le_of_lt z)).symm
      · rw [if_neg (nI_nlt (by omega) (by omega))]
        exact k52 _ (by omega) (Nat.min_eq_right (by omega)).symm
    rw [b_301_12, gR_137_51 w, ld_173 w hi, p6, if_pos (nI_lt (by omega) (by omega)), gR_137_52 w, ld_174 w hi, p7, gR_137_52 w, ld_174 w hi, p7, pk_mul, pk_sub (Nat.le_of_lt hl)]
    by_cases z : D 7 < D 3 - D 7 * j
    · rw [if_pos (nI_lt z (by omega)), gR_137_52 w, ld_174 w hi, p7, pk_sub (by omega)]
      exact k41 _ rfl
    · rw [if_neg (nI_nlt (by omega) (by omega))]
      exact k41 0 (by omega)
theorem made_no {m : Nat} (w : WF h) (e45 : h.2.1 137 45 = nI m) (hm : m ≤ 60) {i z : Int32} (no : (rg i 0 ((nI m).toInt - 1) && rg z 0 11) = false) : ev X (d + 6) 302 [vr (some 137), vi i, vi z] h = av_rI 0 (av_uI h 137 0 1) := by
  have k15 : bd X (d + 5) 302 14 [(0, vr (some 137)), (1, vi i), (2, vi z)] [vr (some 137)] h = av_rI 0 (av_uI h 137 0 1) := by
    rw [b_302_14, b_302_15, pI_137 w, gI_137_0 (WF_uI w), uI_eq, if_pos (by decide)]
  rw [e_302, b_302_0]
  by_cases z1 : i < 0
  · rw [if_pos z1]
    exact k15
  · rw [if_neg z1, gIv_137_45 w e45]
    by_cases z2 : i < nI m
    · have y : rg i 0 ((nI m).toInt - 1) = true := by
        rw [rg, decide_eq_true_eq]
        rw [i_lt] at z1 z2
        rw [tI_0] at z1
        omega
      rw [y, Bool.true_and] at no
      rw [if_pos z2, s_within', tI_0, tI_11, no, if_pos (show bI false = 0 from rfl)]
      exact k15
    · rw [if_neg z2]
      exact k15
theorem made_ok (w : WF h) (J : J_tow h) (Jw : J_wi h) (Jr : J_ru h) (Dp : J_dp h) (i z : Int32) :
    (∃ v h1 h2, ev X (d + 6) 141 [vr (some 0), vi i, vi z] h = av_rI v h1 ∧ ev X (d + 6) 302 [vr (some 137), vi i, vi z] h1 = av_rI v h2 ∧ h2.2.1 137 0 = 0 ∧ WF h2 ∧ off false [64, 71, 76, 166, 167] [(137, 0)] h h2) ∨
    (ev X (d + 6) 141 [vr (some 0), vi i, vi z] h = av_rX (av_new h 12 0) ∧ ev X (d + 6) 302 [vr (some 137), vi i, vi z] (av_new h 12 0) = av_rI 0 (av_uI (av_new h 12 0) 137 0 1)) := by
  obtain ⟨m, D, M, N, B, Dc, Dr, W⟩ := Dp
  have h60 := B.1
  have hl := w.len
  have n45 : (av_new h 12 0).2.1 137 45 = nI m := by
    show va_up h.2.1 h.1.length (fun _ => 0) 137 45 = nI m
    rw [va_up_ne _ _ (by omega)]
    exact Dr.1
  cases no : (rg i 0 ((nI m).toInt - 1) && rg z 0 11) with
  | false =>
    refine Or.inr ⟨?_, made_no (WF_new w) n45 h60 no⟩
    rw [e_141, b_141_0, gIv_0_17 w Dc.1, c_below']
    cases q1 : rg i 0 ((nI m).toInt - 1) with
    | false => rw [if_pos (show bI false = 0 from rfl)]
    | true =>
      rw [q1, Bool.true_and] at no
      rw [if_neg (show ¬ bI true = 0 by decide), c_within', tI_0, tI_11, no, if_pos (show bI false = 0 from rfl)]
  | true =>
    obtain ⟨q1, q2⟩ : rg i 0 ((nI m).toInt - 1) = true ∧ rg z 0 11 = true := by simpa only [Bool.and_eq_true] using no
    obtain ⟨i, him, rfl⟩ : ∃ j, j < m ∧ i = nI j := by
      have q3 := q1
      rw [rg, decide_eq_true_eq, toI_nI (by omega)] at q3
      obtain ⟨j, hj, rfl⟩ := rg_nI (v := i) (b := 60) (by decide) (by rw [rg, decide_eq_true_eq]; omega)
      refine ⟨j, ?_, rfl⟩
      rw [toI_nI (by omega)] at q3
      omega
    obtain ⟨z, hz, rfl⟩ := rg_nI (b := 11) (by decide) q2
    refine Or.inl ?_
    have P := Dc.2 i him
    have bB := B.2.1 i him
    obtain ⟨b0, b1, b2, b3, b4, b5, b6, b7, b8, -⟩ := B.2.1 i him
    have Rt : dpr (th h) i (D i) (N i) := (Dr.2 i him).t (agr.uI rfl agr.rfl)
    have Rt' := Rt
    obtain ⟨p0, p1, p2, p4, p5, p6, p7, p8, p9, p12, p15, p16, p17, p13, p14, p10, p11, p18⟩ := Rt'
    have wt : WF (th h) := w
    have cc : ∀ (v : Int32), (∃ h1, ev X (d + 6) 141 [vr (some 0), vi (nI i), vi (nI z)] h = av_rI v h1 ∧ tC h h1 ∧ ∃ h2, bd X (d + 5) 302 15 [(0, vr (some 137)), (1, vi (nI i)), (2, vi (nI z))] [vi 0, vr (some 137)] h1 = av_rI v h2 ∧ tQ (th h1) h2) → ∃ v h1 h2, ev X (d + 6) 141 [vr (some 0), vi (nI i), vi (nI z)] h = av_rI v h1 ∧ ev X (d + 6) 302 [vr (some 137), vi (nI i), vi (nI z)] h1 = av_rI v h2 ∧ h2.2.1 137 0 = 0 ∧ WF h2 ∧ off false [64, 71, 76, 166, 167] [(137, 0)] h h2 := fun v ⟨h1, e1, T1, h2, e2, T2⟩ => by
      refine ⟨v, h1, h2, e1, ?_, ?_, T2.1, agr.tr (agr.uI rfl (T1.2.up (by decide))) (T2.2.up (by decide))⟩
      · have e45 : h1.2.1 137 45 = nI m := ((T1.2.fr (q := false) (cs := []) (fs := [(137, 45)]) (by decide)).I rfl).trans Dr.1
        rw [e_302, b_302_0, if_neg (nI_pos (by omega)), gIv_137_45 T1.1 e45, if_pos (nI_lt him (by omega)), s_within', tI_0, tI_11, q2, if_neg (show ¬ bI true = 0 by decide)]
        exact e2
      · exact ((T2.2.fr (q := false) (cs := []) (fs := [(137, 0)]) (by decide)).I rfl).trans uI_eq
    rcases (show z = 0 ∨ z = 1 ∨ z = 2 ∨ z = 3 ∨ z = 4 ∨ z = 5 ∨ z = 6 ∨ z = 7 ∨ z = 8 ∨ z = 9 ∨ z = 10 ∨ z = 11 by omega) with rfl | rfl | rfl | rfl | rfl | rfl | rfl | rfl | rfl | rfl | rfl | rfl
    · refine cc (nI (D i 0)) ⟨h, ?_, ⟨w, agr.rfl⟩, th h, ?_, ⟨w, agr.rfl⟩⟩
      · rw [e_141, b_141_0, gIv_0_17 w Dc.1, c_below', q1, if_neg (show ¬ bI true = 0 by decide), c_within', tI_0, tI_11, q2, if_neg (show ¬ bI true = 0 by decide), gR_0_13 w, dr_l w (by omega), if_pos (by decide), dr_g w (by omega) P.1 (by decide)]
      · rw [b_302_15, pI_137 w, th_e, gI_137_0 wt, show (th h).2.1 137 0 = 0 from uI_eq, if_neg (by decide), if_pos (by decide), gR_137_46 wt, ld_168 wt (by omega), p0]
    · refine cc (nI (D i 1)) ⟨h, ?_, ⟨w, agr.rfl⟩, th h, ?_, ⟨w, agr.rfl⟩⟩
      · rw [e_141, b_141_0, gIv_0_17 w Dc.1, c_below', q1, if_neg (show ¬ bI true = 0 by decide), c_within', tI_0, tI_11, q2, if_neg (show ¬ bI true = 0 by decide), gR_0_13 w, dr_l w (by omega), if_neg (by decide), if_pos (by decide), dr_g w (by omega) P.1 (by decide)]
      · rw [b_302_15, pI_137 w, th_e, gI_137_0 wt, show (th h).2.1 137 0 = 0 from uI_eq, if_neg (by decide), if_neg (by decide), if_pos (by decide), gR_137_47 wt, ld_169 wt (by omega), p1]
    · refine cc (nI (D i 2)) ⟨h, ?_, ⟨w, agr.rfl⟩, th h, ?_, ⟨w, agr.rfl⟩⟩
      · rw [e_141, b_141_0, gIv_0_17 w Dc.1, c_below', q1, if_neg (show ¬ bI true = 0 by decide), c_within', tI_0, tI_11, q2, if_neg (show ¬ bI true = 0 by decide), gR_0_13 w, dr_l w (by omega), if_neg (by decide), if_neg (by decide), if_pos (by decide), dr_g w (by omega) P.1 (by decide)]
      · rw [b_302_15, pI_137 w, th_e, gI_137_0 wt, show (th h).2.1 137 0 = 0 from uI_eq, if_neg (by decide), if_neg (by decide), if_neg (by decide), if_pos (by decide), gR_137_48 wt, ld_170 wt (by omega), p2]
    · refine cc (nI (D i 4)) ⟨h, ?_, ⟨w, agr.rfl⟩, th h, ?_, ⟨w, agr.rfl⟩⟩
      · rw [e_141, b_141_0, gIv_0_17 w Dc.1, c_below', q1, if_neg (show ¬ bI true = 0 by decide), c_within', tI_0, tI_11, q2, if_neg (show ¬ bI true = 0 by decide), gR_0_13 w, dr_l w (by omega), if_neg (by decide), if_neg (by decide), if_neg (by decide), if_pos (by decide), dr_g w (by omega) P.1 (by decide)]
      · rw [b_302_15, pI_137 w, th_e, gI_137_0 wt, show (th h).2.1 137 0 = 0 from uI_eq, if_neg (by decide), if_neg (by decide), if_neg (by decide), if_neg (by decide), if_pos (by decide), gR_137_49 wt, ld_171 wt (by omega), p4]
    · refine cc (nI (D i 5)) ⟨h, ?_, ⟨w, agr.rfl⟩, th h, ?_, ⟨w, agr.rfl⟩⟩
      · rw [e_141, b_141_0, gIv_0_17 w Dc.1, c_below', q1, if_neg (show ¬ bI true = 0 by decide), c_within', tI_0, tI_11, q2, if_neg (show ¬ bI true = 0 by decide), gR_0_13 w, dr_l w (by omega), if_neg (by decide), if_neg (by decide), if_neg (by decide), if_neg (by decide), if_pos (by decide), dr_g w (by omega) P.1 (by decide)]
      · rw [b_302_15, pI_137 w, th_e, gI_137_0 wt, show (th h).2.1 137 0 = 0 from uI_eq, if_neg (by decide), if_neg (by decide), if_neg (by decide), if_neg (by decide), if_neg (by decide), if_pos (by decide), gR_137_50 wt, ld_172 wt (by omega), p5]
    · refine cc (nI (D i 6)) ⟨h, ?_, ⟨w, agr.rfl⟩, th h, ?_, ⟨w, agr.rfl⟩⟩
      · rw [e_141, b_141_0, gIv_0_17 w Dc.1, c_below', q1, if_neg (show ¬ bI true = 0 by decide), c_within', tI_0, tI_11, q2, if_neg (show ¬ bI true = 0 by decide), gR_0_13 w, dr_l w (by omega), if_neg (by decide), if_neg (by decide), if_neg (by decide), if_neg (by decide), if_neg (by decide), if_pos (by decide), dr_g w (by omega) P.1 (by decide)]
      · rw [b_302_15, pI_137 w, th_e, gI_137_0 wt, show (th h).2.1 137 0 = 0 from uI_eq, if_neg (by decide), if_neg (by decide), if_neg (by decide), if_neg (by decide), if_neg (by decide), if_neg (by decide), if_pos (by decide), gR_137_51 wt, ld_173 wt (by omega), p6]
    · refine cc (nI (D i 12)) ⟨h, ?_, ⟨w, agr.rfl⟩, th h, ?_, ⟨w, agr.rfl⟩⟩
      · rw [e_141, b_141_0, gIv_0_17 w Dc.1, c_below', q1, if_neg (show ¬ bI true = 0 by decide), c_within', tI_0, tI_11, q2, if_neg (show ¬ bI true = 0 by decide), gR_0_13 w, dr_l w (by omega), if_neg (by decide), if_neg (by decide), if_neg (by decide), if_neg (by decide), if_neg (by decide), if_neg (by decide), if_pos (by decide), dr_g w (by omega) P.1 (by decide)]
      · rw [b_302_15, pI_137 w, th_e, gI_137_0 wt, show (th h).2.1 137 0 = 0 from uI_eq, if_neg (by decide), if_neg (by decide), if_neg (by decide), if_neg (by decide), if_neg (by decide), if_neg (by decide), if_neg (by decide), if_pos (by decide), gR_137_55 wt, ld_177 wt (by omega), p12]
    · refine cc (nI (D i 15)) ⟨h, ?_, ⟨w, agr.rfl⟩, th h, ?_, ⟨w, agr.rfl⟩⟩
      · rw [e_141, b_141_0, gIv_0_17 w Dc.1, c_below', q1, if_neg (show ¬ bI true = 0 by decide), c_within', tI_0, tI_11, q2, if_neg (show ¬ bI true = 0 by decide), gR_0_13 w, dr_l w (by omega), if_neg (by decide), if_neg (by decide), if_neg (by decide), if_neg (by decide), if_neg (by decide), if_neg (by decide), if_neg (by decide), if_pos (by decide), dr_g w (by omega) P.1 (by decide)]
      · rw [b_302_15, pI_137 w, th_e, gI_137_0 wt, show (th h).2.1 137 0 = 0 from uI_eq, if_neg (by decide), if_neg (by decide), if_neg (by decide), if_neg (by decide), if_neg (by decide), if_neg (by decide), if_neg (by decide), if_neg (by decide), if_pos (by decide), gR_137_56 wt, ld_178 wt (by omega), p15]
    · refine cc (nI (D i 16)) ⟨h, ?_, ⟨w, agr.rfl⟩, th h, ?_, ⟨w, agr.rfl⟩⟩
      · rw [e_141, b_141_0, gIv_0_17 w Dc.1, c_below', q1, if_neg (show ¬ bI true = 0 by decide), c_within', tI_0, tI_11, q2, if_neg (show ¬ bI true = 0 by decide), gR_0_13 w, dr_l w (by omega), if_neg (by decide), if_neg (by decide), if_neg (by decide), if_neg (by decide), if_neg (by decide), if_neg (by decide), if_neg (by decide), if_neg (by decide), if_pos (by decide), dr_g w (by omega) P.1 (by decide)]
      · rw [b_302_15, pI_137 w, th_e, gI_137_0 wt, show (th h).2.1 137 0 = 0 from uI_eq, if_neg (by decide), if_neg (by decide), if_neg (by decide), if_neg (by decide), if_neg (by decide), if_neg (by decide), if_neg (by decide), if_neg (by decide), if_neg (by decide), if_pos (by decide), gR_137_57 wt, ld_179 wt (by omega), p16]
    · refine cc (nI (D i 17)) ⟨h, ?_, ⟨w, agr.rfl⟩, th h, ?_, ⟨w, agr.rfl⟩⟩
      · rw [e_141, b_141_0, gIv_0_17 w Dc.1, c_below', q1, if_neg (show ¬ bI true = 0 by decide), c_within', tI_0, tI_11, q2, if_neg (show ¬ bI true = 0 by decide), gR_0_13 w, dr_l w (by omega), if_neg (by decide), if_neg (by decide), if_neg (by decide), if_neg (by decide), if_neg (by decide), if_neg (by decide), if_neg (by decide), if_neg (by decide), if_neg (by decide), if_pos (by decide), dr_g w (by omega) P.1 (by decide)]
      · rw [b_302_15, pI_137 w, th_e, gI_137_0 wt, show (th h).2.1 137 0 = 0 from uI_eq, if_neg (by decide), if_neg (by decide), if_neg (by decide), if_neg (by decide), if_neg (by decide), if_neg (by decide), if_neg (by decide), if_neg (by decide), if_neg (by decide), if_neg (by decide), if_pos (by decide), gR_137_58 wt, ld_180 wt (by omega), p17]
    · obtain ⟨u, oo, c, q⟩ := Jr
      obtain ⟨a, V, W0, -, -⟩ := tw_of J B W him
      obtain ⟨h1, T1, e1⟩ := c_isStopped (X := X) (d := d + 1) (show tC h h from ⟨w, agr.rfl⟩) oo c Jw (show i < 60 by omega) P.k W0 b1 b4 b6.2
      have A2 : agr (FP false ([2, 143, 146, 154, 161, 162, 163, 164, 165] ++ rCells) [(137, 45), (137, 37), (137, 38), (137, 41)]) h (th h1) := agr.uI rfl (T1.2.fr (by decide +kernel))
      obtain ⟨h2, T2, e2⟩ := s_isAgainst (X := X) (d := d + 1) (show tQ (th h1) (th h1) from ⟨WF_uI T1.1, agr.rfl⟩) oo (q.fr (A2.sub (by decide +kernel))) (Jw.fr (A2.sub (by decide +kernel))) (show i < 60 by omega) ((Dr.2 i him).t (A2.sub (by decide +kernel))) b0 b1 b4 b6.2 ((A2.I rfl).trans (W.2 i him))
      rw [← agD, agD_fr (A2.sub (by decide +kernel)), agD] at e2
      refine cc (bI (anyN (D i 6) (D i 5) (fun k => u.st (fcD h (D i) k)))) ⟨h1, ?_, T1, h2, ?_, T2⟩
      · rw [e_141, b_141_0, gIv_0_17 w Dc.1, c_below', q1, if_neg (show ¬ bI true = 0 by decide), c_within', tI_0, tI_11, q2, if_neg (show ¬ bI true = 0 by decide), gR_0_13 w, dr_l w (by omega), if_neg (by decide), if_neg (by decide), if_neg (by decide), if_neg (by decide), if_neg (by decide), if_neg (by decide), if_neg (by decide), if_neg (by decide), if_neg (by decide), if_neg (by decide), if_pos (by decide), is_0 w, e1, av_cI_r, Option.bind_some, rI_bI]
      · have wt1 : WF (th h1) := T1.1
        rw [b_302_15, pI_137 T1.1, th_e, gI_137_0 wt1, show (th h1).2.1 137 0 = 0 from uI_eq, if_neg (by decide), if_neg (by decide), if_neg (by decide), if_neg (by decide), if_neg (by decide), if_neg (by decide), if_neg (by decide), if_neg (by decide), if_neg (by decide), if_neg (by decide), if_neg (by decide), if_pos (by decide), is_137 wt1, e2, av_cI_r, Option.bind_some, rI_bI]
    · refine cc (nI (rwF (D i) (D i 6) 0 0)) ⟨h, ?_, ⟨w, agr.rfl⟩, th h, ?_, ⟨w, agr.rfl⟩⟩
      · rw [e_141, b_141_0, gIv_0_17 w Dc.1, c_below', q1, if_neg (show ¬ bI true = 0 by decide), c_within', tI_0, tI_11, q2, if_neg (show ¬ bI true = 0 by decide), gR_0_13 w, dr_l w (by omega), if_neg (by decide), if_neg (by decide), if_neg (by decide), if_neg (by decide), if_neg (by decide), if_neg (by decide), if_neg (by decide), if_neg (by decide), if_neg (by decide), if_neg (by decide), if_neg (by decide), dr_is w (by omega), e_10, b_10_0]
        have e := rw_c (X := X) (d := d + 3) w (show i < 60 by omega) P bB (D i 6) 0 0 (by omega) (by omega)
        dsimp only
        rw [show (0 : Int32) = nI 0 from rfl, e, av_cI_r, Option.bind_some]
      · rw [b_302_15, pI_137 w, th_e, gI_137_0 wt, show (th h).2.1 137 0 = 0 from uI_eq, if_neg (by decide), if_neg (by decide), if_neg (by decide), if_neg (by decide), if_neg (by decide), if_neg (by decide), if_neg (by decide), if_neg (by decide), if_neg (by decide), if_neg (by decide), if_neg (by decide), if_neg (by decide), is_137 wt, e_301, b_301_0, gR_137_10 wt, gR_137_46 wt, ld_168 wt (by omega), p0, ld_143 wt b0, th_I (by decide), W.2 i him]
        have e := rw_s (X := X) (d := d + 3) wt (show i < 60 by omega) Rt bB (D i 6) 0 0 (by omega) (by omega)
        rw [show (0 : Int32) = nI 0 from rfl, e, av_cI_r, Option.bind_some]
end
