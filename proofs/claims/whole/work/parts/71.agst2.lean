/-! against, asked -/
theorem dpr.t {h0 h : av_H} {i N : Nat} {D : Nat → Nat} (R : dpr h0 i D N) (A : agr (FP false rCells []) h0 h) : dpr h i D N := by
  unfold dpr at R ⊢
  rw [A.I rfl, A.I rfl, A.I rfl, A.I rfl, A.I rfl, A.I rfl, A.I rfl, A.I rfl, A.I rfl, A.I rfl, A.I rfl, A.I rfl, A.I rfl, A.I rfl, A.I rfl, A.I rfl, A.I rfl, A.L rfl]
  exact R
section
variable {X : av_X} {d : Nat} {h : av_H}
theorem agst_lp {h0 : av_H} {u : Ru} (o : u.ok) (Q : u.Q h0) (Jw : J_wi h0) {i N : Nat} {D : Nat → Nat} (hi : i < 60) (R : dpr h0 i D N) (b1 : D 1 < 4) (b4 : D 4 < 100) (b5 : D 5 + D 6 ≤ 24) : ∀ n k h (b : Bool), k + n = D 5 + D 6 → tQ h0 h → fQ h (D 0) (D 3) (D 12) (D 6) (D 13) (D 14) → ∃ h', tQ h0 h' ∧ bd X (d + 3) 300 29 [(0, vr (some 137)), (1, vi (nI i)), (2, vi (bI b)), (3, vi (nI k))] [] h = av_rI (bI (b || anyN n k (fun k => u.st (fcD h0 D k)))) h'
  | 0, k, h, b, hk, T, _ => by
    obtain ⟨p0, p1, p2, p4, p5, p6, -⟩ := R.t (T.2.fr (by decide +kernel))
    have w := T.1
    refine ⟨h, T, ?_⟩
    rw [b_300_29, gR_137_50 w, ld_172 w hi, p5, gR_137_51 w, ld_173 w hi, p6, nI_add, if_neg (nI_nlt (by omega) (by omega)), zb_b, anyN, Bool.or_false]
  | n + 1, k, h, b, hk, T, F => by
    obtain ⟨p0, p1, p2, p4, p5, p6, -⟩ := R.t (T.2.fr (by decide +kernel))
    have w := T.1
    rw [b_300_29, gR_137_50 w, ld_172 w hi, p5, gR_137_51 w, ld_173 w hi, p6, nI_add, if_pos (nI_lt (by omega) (by omega)), nI_1, anyN]
    cases b with
    | true =>
      rw [if_neg (show ¬ bI true = 0 by decide), Bool.true_or]
      have ih := agst_lp o Q Jw hi R b1 b4 b5 n (k + 1) h true (by omega) T F
      rw [Bool.true_or] at ih
      exact ih
    | false =>
      obtain ⟨h1, T1, F1, e1⟩ := s_so (X := X) (d := d) T o Q Jw (show 0 < 2 by decide) b1 b4 (show k < 24 by omega) F
      rw [if_pos rfl, ← fcD] at e1
      rw [if_pos (show bI false = 0 from rfl), gR_137_47 w, ld_169 w hi, p1, gR_137_49 w, ld_171 w hi, p4, is_137 w, show (0 : Int32) = nI 0 from rfl, e1, av_cI_r, Option.bind_some, Bool.false_or]
      cases q : u.st (fcD h0 D k) with
      | false =>
        have ih := agst_lp o Q Jw hi R b1 b4 b5 n (k + 1) h1 false (by omega) T1 F1
        rw [if_pos (show bI false = nI 0 from rfl)]
        exact ih
      | true =>
        have ih := agst_lp o Q Jw hi R b1 b4 b5 n (k + 1) h1 true (by omega) T1 F1
        rw [if_neg (show ¬ bI true = nI 0 by decide)]
        exact ih
theorem s_isAgainst {h0 : av_H} (T : tQ h0 h) {u : Ru} (o : u.ok) (Q : u.Q h0) (Jw : J_wi h0) {i N : Nat} {D : Nat → Nat} (hi : i < 60) (R : dpr h0 i D N) (b0 : D 0 < 6) (b1 : D 1 < 4) (b4 : D 4 < 100) (b5 : D 5 + D 6 ≤ 24) (hF : h0.2.1 143 (D 0) = nI (D 3)) : ∃ h', tQ h0 h' ∧ ev X (d + 4) 300 [vr (some 137), vi (nI i)] h = av_rI (bI (anyN (D 6) (D 5) (fun k => u.st (fcD h0 D k)))) h' := by
  obtain ⟨p0, p1, p2, p4, p5, p6, p7, p8, p9, p12, p15, p16, p17, p13, p14, p10, p11, p18⟩ := R.t (T.2.fr (by decide +kernel))
  have w := T.1
  obtain ⟨h1, T1, F1, e1⟩ := s_lays (X := X) (d := d + 2) (pn := D 12) (hs := D 6) (wo := D 13) (ag := D 14) T b0 hF
  obtain ⟨h2, T2, e2⟩ := agst_lp (X := X) (d := d) o Q Jw hi R b1 b4 b5 (D 6) (D 5) h1 false (by omega) T1 F1
  obtain ⟨r0, r1, r2, r4, r5, r6, -⟩ := R.t (T1.2.fr (by decide +kernel))
  refine ⟨h2, T2, ?_⟩
  rw [e_300, b_300_0, gR_137_46 w, ld_168 w hi, p0, gR_137_55 w, ld_177 w hi, p12, gR_137_51 w, ld_173 w hi, p6, gR_137_59 w, ld_181 w hi, p13, gR_137_60 w, ld_182 w hi, p14, is_137 w, e1, av_cV_r, Option.bind_some, gR_137_50 T1.1, ld_172 T1.1 hi, r5]
  rw [Bool.false_or] at e2
  exact e2
/-- a drop was made against the rule in force -/
def agD (h : av_H) (u : Ru) (D : Nat → Nat) : Bool := anyN (D 6) (D 5) (fun k => u.st (fcD h D k))
theorem agD_fr {h h' : av_H} (A : agr (FP false [154] []) h h') {u : Ru} {D : Nat → Nat} : agD h' u D = agD h u D := anyN_cg _ _ (fun k _ _ => by simp only [fcD, wv_fr A])
def agC (h : av_H) (u : Ru) (D : Nat → Nat → Nat) (s : Int32) (i : Nat) : Bool := (decide (s = -1) || decide (nI (D i 1) = s)) && agD h u (D i)
/-- the towers of the drops -/
theorem tw_of {m : Nat} {D : Nat → Nat → Nat} {M N : Nat → Nat} (J : J_tow h) (B : DB m D M N) (W : DW h m D M) {i : Nat} (hi : i < m) : ∃ a V, tw0 h (D i 0) a (D i 3) V ∧ h.2.1 150 (D i 0) = nI V ∧ V ≤ 9999 := by
  obtain ⟨b0, b1, b2, ⟨b3, b3'⟩, -⟩ := B.2.1 i hi
  have hF := W.2 i hi
  have tl : told h (nI (D i 0)) = true := by
    rw [told_nI b0, hF]
    exact decide_eq_true (nI_lt (a := 0) (by omega) (by omega))
  obtain ⟨t, a, h6, e, hj, T⟩ := told_ex J tl
  obtain rfl : D i 0 = t := (nI_eq (by omega) (by omega)).mp e
  obtain ⟨F, C, W, L, V, p1, p2, p3, p4, p5, p6, p7, p8, p9, r1, r2, r3, r4, r5, r6, r7, r8, r9, r10⟩ := T.2.2.2.2.2.2.1
  obtain rfl : D i 3 = F := (nI_eq (by omega) (by omega)).mp (hF.symm.trans r2)
  exact ⟨a, V, ⟨h6, T.1, hj, T.2.1, r1, r9⟩, r10, p9⟩
theorem ag_c {h0 : av_H} {u : Ru} (o : u.ok) (C : u.C h0) (Jw : J_wi h0) (J : J_tow h0) {m : Nat} {D : Nat → Nat → Nat} {M N : Nat → Nat} (B : DB m D M N) (Dc : DC h0 m D M) (W : DW h0 m D M) (s : Int32) : ∀ n i h, i + n = m → tC h0 h → ∃ h', tC h0 h' ∧ bd X (d + 4) 143 12 [(0, vr (some 0)), (1, vi s), (2, vi (nI (fb_ct (agC h0 u D s) i))), (3, vi (nI i))] [] h = av_rI (nI (fb_ct (agC h0 u D s) m)) h'
  | 0, i, h, hi, T => by
    obtain rfl : i = m := by omega
    have h60 := B.1
    have e17 : h.2.1 0 17 = nI i := ((T.2.fr (q := false) (cs := []) (fs := [(0, 17)]) (by decide)).I rfl).trans Dc.1
    refine ⟨h, T, ?_⟩
    rw [b_143_12, gIv_0_17 T.1 e17, if_neg (nI_nlt (by omega) (by omega))]
  | n + 1, i, h, hi, T => by
    have h60 := B.1
    have w := T.1
    have e17 : h.2.1 0 17 = nI m := ((T.2.fr (q := false) (cs := []) (fs := [(0, 17)]) (by decide)).I rfl).trans Dc.1
    have ih := ag_c o C Jw J B Dc W s n (i + 1)
    have Pk := (Dc.2 i (by omega)).k
    obtain ⟨a, V, W0, -, -⟩ := tw_of J B W (show i < m by omega)
    obtain ⟨b0, b1, b2, b3, b4, b5, b6, -⟩ := B.2.1 i (by omega)
    obtain ⟨h1, T1, e1⟩ := c_isStopped (X := X) (d := d) T o C Jw (show i < 60 by omega) Pk W0 b1 b4 b6.2
    rw [fb_ct_succ] at ih
    have k26 : (decide (s = -1) || decide (nI (D i 1) = s)) = true → ∃ h', tC h0 h' ∧ bd X (d + 4) 143 26 [(0, vr (some 0)), (1, vi s), (2, vi (nI (fb_ct (agC h0 u D s) i))), (3, vi (nI i))] [] h = av_rI (nI (fb_ct (agC h0 u D s) m)) h' := fun z => by
      rw [b_143_26, gR_0_13 w, dr_l w (by omega), is_0 w, e1, av_cI_r, Option.bind_some, nI_1, nI_1]
      cases q : anyN (D i 6) (D i 5) (fun k => u.st (fcD h0 (D i) k)) with
      | false =>
        rw [show agC h0 u D s i = false by rw [agC, agD, q, Bool.and_false]] at ih
        rw [if_pos (show bI false = 0 from rfl)]
        exact ih h1 (by omega) T1
      | true =>
        rw [show agC h0 u D s i = true by rw [agC, agD, q, z]; rfl] at ih
        rw [if_neg (show ¬ bI true = 0 by decide)]
        exact ih h1 (by omega) T1
    rw [b_143_12, gIv_0_17 w e17, if_pos (nI_lt (by omega) (by omega))]
    by_cases z1 : s = -1
    · rw [if_pos z1]
      exact k26 (by rw [decide_eq_true z1, Bool.true_or])
    · rw [if_neg z1, gR_0_13 w, dr_l w (by omega), dk_g w (by omega) (Pk.t (by omega) T) (by decide)]
      by_cases z2 : nI (D i 1) = s
      · rw [if_pos z2]
        exact k26 (by rw [decide_eq_true z2, Bool.or_true])
      · rw [show agC h0 u D s i = false by rw [agC, decide_eq_false z1, decide_eq_false z2]; rfl] at ih
        rw [if_neg z2, nI_1]
        exact ih h (by omega) T
theorem ag_s {h0 : av_H} {u : Ru} (o : u.ok) (Q : u.Q h0) (Jw : J_wi h0) {m : Nat} {D : Nat → Nat → Nat} {M N : Nat → Nat} (B : DB m D M N) (Dr : DR h0 m D N) (W : DW h0 m D M) (s : Int32) : ∀ n i h, i + n = m → tQ h0 h → ∃ h', tQ h0 h' ∧ bd X (d + 4) 304 15 [(0, vr (some 137)), (1, vi s), (2, vi (nI (fb_ct (agC h0 u D s) i))), (3, vi (nI i))] [] h = av_rI (nI (fb_ct (agC h0 u D s) m)) h'
  | 0, i, h, hi, T => by
    obtain rfl : i = m := by omega
    have h60 := B.1
    have e45 : h.2.1 137 45 = nI i := ((T.2.fr (q := false) (cs := []) (fs := [(137, 45)]) (by decide)).I rfl).trans Dr.1
    refine ⟨h, T, ?_⟩
    rw [b_304_15, gIv_137_45 T.1 e45, if_neg (nI_nlt (by omega) (by omega))]
  | n + 1, i, h, hi, T => by
    have h60 := B.1
    have w := T.1
    have e45 : h.2.1 137 45 = nI m := ((T.2.fr (q := false) (cs := []) (fs := [(137, 45)]) (by decide)).I rfl).trans Dr.1
    have ih := ag_s o Q Jw B Dr W s n (i + 1)
    obtain ⟨p0, p1, -⟩ := (Dr.2 i (by omega)).t (T.2.fr (by decide +kernel))
    obtain ⟨b0, b1, b2, b3, b4, b5, b6, -⟩ := B.2.1 i (by omega)
    obtain ⟨h1, T1, e1⟩ := s_isAgainst (X := X) (d := d) T o Q Jw (show i < 60 by omega) (Dr.2 i (by omega)) b0 b1 b4 b6.2 (W.2 i (by omega))
    rw [fb_ct_succ] at ih
    have k29 : (decide (s = -1) || decide (nI (D i 1) = s)) = true → ∃ h', tQ h0 h' ∧ bd X (d + 4) 304 29 [(0, vr (some 137)), (1, vi s), (3, vi (nI i))] [vi (nI (fb_ct (agC h0 u D s) i))] h = av_rI (nI (fb_ct (agC h0 u D s) m)) h' := fun z => by
      rw [b_304_29, is_137 w, e1, av_cI_r, Option.bind_some, nI_1, nI_1, Int32.add_zero]
      cases q : anyN (D i 6) (D i 5) (fun k => u.st (fcD h0 (D i) k)) with
      | false =>
        rw [show agC h0 u D s i = false by rw [agC, agD, q, Bool.and_false]] at ih
        rw [if_pos (show bI false = 0 from rfl)]
        exact ih h1 (by omega) T1
      | true =>
        rw [show agC h0 u D s i = true by rw [agC, agD, q, z]; rfl] at ih
        rw [if_neg (show ¬ bI true = 0 by decide)]
        exact ih h1 (by omega) T1
    rw [b_304_15, gIv_137_45 w e45, if_pos (nI_lt (by omega) (by omega))]
    by_cases z1 : s = -1
    · rw [if_pos z1]
      exact k29 (by rw [decide_eq_true z1, Bool.true_or])
    · rw [if_neg z1, gR_137_47 w, ld_169 w (by omega), p1]
      by_cases z2 : nI (D i 1) = s
      · rw [if_pos z2]
        exact k29 (by rw [decide_eq_true z2, Bool.or_true])
      · rw [show agC h0 u D s i = false by rw [agC, decide_eq_false z1, decide_eq_false z2]; rfl] at ih
        rw [if_neg z2, nI_1, Int32.add_zero]
        exact ih h (by omega) T
theorem against_ok (w : WF h) (J : J_tow h) (Jw : J_wi h) (Jr : J_ru h) (Dp : J_dp h) (s : Int32) : ∃ v h1 h2, ev X (d + 6) 143 [vr (some 0), vi s] h = av_rI v h1 ∧ ev X (d + 6) 304 [vr (some 137), vi s] h1 = av_rI v h2 ∧ WF h2 ∧ off false [64, 71, 76, 166, 167] [(137, 0)] h h2 := by
  obtain ⟨u, o, c, q⟩ := Jr
  obtain ⟨m, D, M, N, B, Dc, Dr, W⟩ := Dp
  obtain ⟨k2, T2, e2⟩ := ag_c (X := X) (d := d + 1) o c Jw J B Dc W s m 0 h (by omega) ⟨w, agr.rfl⟩
  have A2 : agr (FP false ([2, 143, 146, 154, 161, 162, 163, 164, 165] ++ rCells) [(137, 45), (137, 37), (137, 38), (137, 41)]) h (th k2) := agr.uI rfl (T2.2.fr (by decide +kernel))
  have hl : agC (th k2) u D s = agC h u D s := by
    funext i
    rw [agC, agC, agD_fr (A2.sub (by decide))]
  obtain ⟨k3, T3, e3⟩ := ag_s (X := X) (d := d + 1) o (q.fr (A2.sub (by decide +kernel))) (Jw.fr (A2.sub (by decide +kernel))) B (Dr.fr (A2.sub (by decide +kernel))) (W.fr (A2.sub (by decide +kernel))) s m 0 (th k2) (by omega) ⟨WF_uI T2.1, agr.rfl⟩
  rw [hl] at e3
  by_cases z1 : s = -1
  · refine ⟨nI (fb_ct (agC h u D s) m), k2, k3, ?_, ?_, T3.1, agr.tr (agr.uI rfl (T2.2.up (by decide))) (T3.2.up (by decide))⟩
    · rw [e_143, b_143_0, if_pos z1]
      exact e2
    · rw [e_304, b_304_0, pI_137 T2.1, th_e, if_pos z1]
      exact e3
  · cases q2 : rg s 0 3 with
    | false =>
      refine ⟨-1, h, th h, ?_, ?_, w, agr.uI rfl agr.rfl⟩
      · rw [e_143, b_143_0, if_neg z1, c_isSide', q2, if_pos (show bI false = 0 from rfl)]
      · rw [e_304, b_304_0, pI_137 w, th_e, if_neg z1, s_isSide', q2, if_pos (show bI false = 0 from rfl)]
    | true =>
      refine ⟨nI (fb_ct (agC h u D s) m), k2, k3, ?_, ?_, T3.1, agr.tr (agr.uI rfl (T2.2.up (by decide))) (T3.2.up (by decide))⟩
      · rw [e_143, b_143_0, if_neg z1, c_isSide', q2, if_neg (show ¬ bI true = 0 by decide)]
        exact e2
      · rw [e_304, b_304_0, pI_137 T2.1, th_e, if_neg z1, s_isSide', q2, if_neg (show ¬ bI true = 0 by decide)]
        exact e3
end
