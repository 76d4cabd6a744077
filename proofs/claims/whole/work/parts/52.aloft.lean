/-! aloft -/
section
variable {X : av_X} {d : Nat} {h : av_H}
theorem aloft_lp {g : av_H} {m : Nat} {D : Nat → Nat → Nat} {M N : Nat → Nat} (E : EN h g m D M N) (p a b : Int32) {d' : Nat} : ∀ n i (v : Int32), i + n = m → ∃ r,
    bd X (d + 3) 175 13 [(0, vr (some 0)), (1, vi p), (2, vi a), (3, vi b), (4, vi v), (5, vi (nI i))] [] h = av_rI r h ∧
    bd X (d' + 1) 363 21 [(0, vr (some 137)), (1, vi p), (2, vi a), (3, vi b), (4, vi v), (5, vi (nI i))] [] g = av_rI r g
  | 0, i, v, hi => by
    obtain ⟨w, w', Bd, C, R⟩ := E
    have h60 := Bd.1
    refine ⟨v, ?_, ?_⟩
    · rw [b_175_13, gIv_0_17 w C.1, if_neg (nI_nlt (by omega) (by omega))]
    · rw [b_363_21, gIv_137_45 w' R.1, if_neg (nI_nlt (by omega) (by omega))]
  | n + 1, i, v, hi => by
    have ih := fun v => aloft_lp E p a b (d' := d') n (i + 1) v (by omega)
    obtain ⟨w, w', Bd, ⟨c17, C⟩, ⟨r45, R⟩⟩ := E; have h60 := Bd.1; have lt : i < m := (by omega); have dB := Bd.2.1 i (by omega); have P := C i (by omega); have hD := P.1; have Q := R i (by omega); obtain ⟨p0, p1, p2, p4, p5, p6, p7, p8, p9, p12, p15, p16, p17, p13, p14, p10, p11, p18⟩ := R i (by omega)
    rcases bdi (prs (D i) p) with q1 | q1
    · obtain ⟨r, e1, e2⟩ := ih v
      refine ⟨r, ?_, ?_⟩
      · rw [b_175_13]
        simp (disch := first | ((repeat (first | with_reducible apply WF_uI | with_reducible apply WF_uL | with_reducible apply WF_th | with_reducible apply WF_fillL | with_reducible apply WF_fgt)); with_reducible assumption) | omega | (simp only [uI_1, uL_1, th_1, uI_R, uL_R]; with_reducible assumption)) only [↓gIv_0_17 (v := nI m), nI_ltI, lt, ↓gR_0_13, ↓dr_l, ↓dr_is, ↓dr_g (D := D i), ↓c_hasP' (D := D i) (M := M i), ↓c_within', ↓reduceIte, i10, av_cI_r, av_cL_r, av_cV_r, Option.bind_some, ↓zb_0, ↓zb_1, ↓zb_b, bI_0, Bool.true_eq_false, nI_1,  q1, e1]
      · rw [b_363_21]
        simp (disch := first | ((repeat (first | with_reducible apply WF_uI | with_reducible apply WF_uL | with_reducible apply WF_th | with_reducible apply WF_fillL | with_reducible apply WF_fgt)); with_reducible assumption) | omega | (simp only [uI_1, uL_1, th_1, uI_R, uL_R]; with_reducible assumption)) only [↓gIv_137_45 (v := nI m), nI_ltI, lt, ↓is_137, ↓s_isIn' (D := D i) (N := N i), ↓s_within', ↓reduceIte, i10, av_cI_r, av_cL_r, av_cV_r, Option.bind_some, ↓zb_0, ↓zb_1, ↓zb_b, bI_0, Bool.true_eq_false, nI_1, Int32.add_zero, p0, p1, p2, p4, p5, p6, p7, p8, p9, p12, p15, p16, p17, p13, p14, p10, p11,  q1, e2]
    · rcases bdi (rg (nI (D i 4)) a.toInt b.toInt) with q2 | q2
      · obtain ⟨r, e1, e2⟩ := ih v
        refine ⟨r, ?_, ?_⟩
        · rw [b_175_13]
          simp (disch := first | ((repeat (first | with_reducible apply WF_uI | with_reducible apply WF_uL | with_reducible apply WF_th | with_reducible apply WF_fillL | with_reducible apply WF_fgt)); with_reducible assumption) | omega | (simp only [uI_1, uL_1, th_1, uI_R, uL_R]; with_reducible assumption)) only [↓gIv_0_17 (v := nI m), nI_ltI, lt, ↓gR_0_13, ↓dr_l, ↓dr_is, ↓dr_g (D := D i), ↓c_hasP' (D := D i) (M := M i), ↓c_within', ↓reduceIte, i10, av_cI_r, av_cL_r, av_cV_r, Option.bind_some, ↓zb_0, ↓zb_1, ↓zb_b, bI_0, Bool.true_eq_false, nI_1,  q1, q2, e1]
        · rw [b_363_21]
          simp (disch := first | ((repeat (first | with_reducible apply WF_uI | with_reducible apply WF_uL | with_reducible apply WF_th | with_reducible apply WF_fillL | with_reducible apply WF_fgt)); with_reducible assumption) | omega | (simp only [uI_1, uL_1, th_1, uI_R, uL_R]; with_reducible assumption)) only [↓gIv_137_45 (v := nI m), nI_ltI, lt, ↓is_137, ↓s_isIn' (D := D i) (N := N i), ↓s_within', ↓reduceIte, i10, av_cI_r, av_cL_r, av_cV_r, Option.bind_some, ↓zb_0, ↓zb_1, ↓zb_b, bI_0, Bool.true_eq_false, nI_1, Int32.add_zero, p0, p1, p2, p4, p5, p6, p7, p8, p9, p12, p15, p16, p17, p13, p14, p10, p11,  ↓gR_137_49, ↓ld_171, q1, q2, e2]
      · obtain ⟨r, e1, e2⟩ := ih (v + nI (D i 6))
        refine ⟨r, ?_, ?_⟩
        · rw [b_175_13]
          simp (disch := first | ((repeat (first | with_reducible apply WF_uI | with_reducible apply WF_uL | with_reducible apply WF_th | with_reducible apply WF_fillL | with_reducible apply WF_fgt)); with_reducible assumption) | omega | (simp only [uI_1, uL_1, th_1, uI_R, uL_R]; with_reducible assumption)) only [↓gIv_0_17 (v := nI m), nI_ltI, lt, ↓gR_0_13, ↓dr_l, ↓dr_is, ↓dr_g (D := D i), ↓c_hasP' (D := D i) (M := M i), ↓c_within', ↓reduceIte, i10, av_cI_r, av_cL_r, av_cV_r, Option.bind_some, ↓zb_0, ↓zb_1, ↓zb_b, bI_0, Bool.true_eq_false, nI_1,  q1, q2, e1]
        · rw [b_363_21]
          simp (disch := first | ((repeat (first | with_reducible apply WF_uI | with_reducible apply WF_uL | with_reducible apply WF_th | with_reducible apply WF_fillL | with_reducible apply WF_fgt)); with_reducible assumption) | omega | (simp only [uI_1, uL_1, th_1, uI_R, uL_R]; with_reducible assumption)) only [↓gIv_137_45 (v := nI m), nI_ltI, lt, ↓is_137, ↓s_isIn' (D := D i) (N := N i), ↓s_within', ↓reduceIte, i10, av_cI_r, av_cL_r, av_cV_r, Option.bind_some, ↓zb_0, ↓zb_1, ↓zb_b, bI_0, Bool.true_eq_false, nI_1, Int32.add_zero, p0, p1, p2, p4, p5, p6, p7, p8, p9, p12, p15, p16, p17, p13, p14, p10, p11,  ↓gR_137_49, ↓ld_171, ↓gR_137_51, ↓ld_173, q1, q2, e2]
def okAl (p a b : Int32) : Bool := rg p 0 9 && dys a b
theorem aloft_ok (w : WF h) (Dp : J_dp h) (p a b : Int32) : ∃ v h1 h2, ev X (d + 5) 175 [vr (some 0), vi p, vi a, vi b] h = av_rI v h1 ∧ ev X (d + 5) 363 [vr (some 137), vi p, vi a, vi b] h1 = av_rI v h2 ∧ WF h2 ∧ off false [] [(137, 0)] h h2 := by
  have hk : (a ≤ b) = ¬ b < a := by simp only [eq_iff_iff]; exact Int32.not_lt.symm
  cases ok : okAl p a b with
  | false =>
    refine ⟨-1, h, th h, ?_, ?_, w, agr.uI rfl agr.rfl⟩
    · rcases bdi (rg p 0 9) with q1 | q1
      · simp (disch := first | ((repeat (first | with_reducible apply WF_uI | with_reducible apply WF_uL | with_reducible apply WF_th | with_reducible apply WF_fillL | with_reducible apply WF_fgt)); with_reducible assumption) | omega | (simp only [uI_1, uL_1, th_1, uI_R, uL_R]; with_reducible assumption)) only [e_175, b_175_0, ↓c_isPerson', ↓c_areDays', dys_e, ↓reduceIte, i10, av_cI_r, av_cL_r, av_cV_r, Option.bind_some, ↓zb_0, ↓zb_1, ↓zb_b, bI_0, q1, Bool.true_eq_false]
      rcases bdi (dys a b) with q2 | q2
      · simp (disch := first | ((repeat (first | with_reducible apply WF_uI | with_reducible apply WF_uL | with_reducible apply WF_th | with_reducible apply WF_fillL | with_reducible apply WF_fgt)); with_reducible assumption) | omega | (simp only [uI_1, uL_1, th_1, uI_R, uL_R]; with_reducible assumption)) only [e_175, b_175_0, ↓c_isPerson', ↓c_areDays', dys_e, ↓reduceIte, i10, av_cI_r, av_cL_r, av_cV_r, Option.bind_some, ↓zb_0, ↓zb_1, ↓zb_b, bI_0, q1, q2, Bool.true_eq_false]
      simp [okAl, q1, q2] at ok
    · rcases bdi (rg p 0 9) with q1 | q1
      · simp (disch := first | ((repeat (first | with_reducible apply WF_uI | with_reducible apply WF_uL | with_reducible apply WF_th | with_reducible apply WF_fillL | with_reducible apply WF_fgt)); with_reducible assumption) | omega | (simp only [uI_1, uL_1, th_1, uI_R, uL_R]; with_reducible assumption)) only [e_363, b_363_0, ↓pI_137, th_e, ↓s_isPerson', ↓s_isDay', ↓reduceIte, i10, av_cI_r, av_cL_r, av_cV_r, Option.bind_some, ↓zb_0, ↓zb_1, ↓zb_b, bI_0, q1, Bool.true_eq_false]
      rcases bdi (rg a 0 99) with q2 | q2
      · simp (disch := first | ((repeat (first | with_reducible apply WF_uI | with_reducible apply WF_uL | with_reducible apply WF_th | with_reducible apply WF_fillL | with_reducible apply WF_fgt)); with_reducible assumption) | omega | (simp only [uI_1, uL_1, th_1, uI_R, uL_R]; with_reducible assumption)) only [e_363, b_363_0, ↓pI_137, th_e, ↓s_isPerson', ↓s_isDay', ↓reduceIte, i10, av_cI_r, av_cL_r, av_cV_r, Option.bind_some, ↓zb_0, ↓zb_1, ↓zb_b, bI_0, q1, q2, Bool.true_eq_false]
      rcases bdi (rg b 0 99) with q3 | q3
      · simp (disch := first | ((repeat (first | with_reducible apply WF_uI | with_reducible apply WF_uL | with_reducible apply WF_th | with_reducible apply WF_fillL | with_reducible apply WF_fgt)); with_reducible assumption) | omega | (simp only [uI_1, uL_1, th_1, uI_R, uL_R]; with_reducible assumption)) only [e_363, b_363_0, ↓pI_137, th_e, ↓s_isPerson', ↓s_isDay', ↓reduceIte, i10, av_cI_r, av_cL_r, av_cV_r, Option.bind_some, ↓zb_0, ↓zb_1, ↓zb_b, bI_0, q1, q2, q3, Bool.true_eq_false]
      rcases Classical.em (b < a) with q5 | q5
      · simp (disch := first | ((repeat (first | with_reducible apply WF_uI | with_reducible apply WF_uL | with_reducible apply WF_th | with_reducible apply WF_fillL | with_reducible apply WF_fgt)); with_reducible assumption) | omega | (simp only [uI_1, uL_1, th_1, uI_R, uL_R]; with_reducible assumption)) only [e_363, b_363_0, ↓pI_137, th_e, ↓s_isPerson', ↓s_isDay', ↓reduceIte, i10, av_cI_r, av_cL_r, av_cV_r, Option.bind_some, ↓zb_0, ↓zb_1, ↓zb_b, bI_0, q1, q2, q3, q5, Bool.true_eq_false]
      simp [okAl, dys, hk, q1, q2, q3, q5] at ok
  | true =>
    obtain ⟨q1, q2⟩ : rg p 0 9 = true ∧ dys a b = true := by simpa only [okAl, Bool.and_eq_true] using ok
    obtain ⟨⟨q3, q4⟩, q5⟩ : (rg a 0 99 = true ∧ rg b 0 99 = true) ∧ ¬ b < a := by simpa only [dys, hk, Bool.and_eq_true, decide_eq_true_eq] using q2
    obtain ⟨m, D, M, N, E, W⟩ := Dp.EN w
    obtain ⟨v, e1, e2⟩ := aloft_lp (X := X) (d := d + 1) (d' := d + 3) E p a b m 0 0 (by omega)
    refine ⟨v, h, th h, ?_, ?_, w, agr.uI rfl agr.rfl⟩
    · simp (disch := first | ((repeat (first | with_reducible apply WF_uI | with_reducible apply WF_uL | with_reducible apply WF_th | with_reducible apply WF_fillL | with_reducible apply WF_fgt)); with_reducible assumption) | omega | (simp only [uI_1, uL_1, th_1, uI_R, uL_R]; with_reducible assumption)) only [e_175, b_175_0, ↓c_isPerson', ↓c_areDays', dys_e, ↓reduceIte, i10, av_cI_r, av_cL_r, av_cV_r, Option.bind_some, ↓zb_0, ↓zb_1, ↓zb_b, bI_0, q1, q2, Bool.true_eq_false]
      exact e1
    · simp (disch := first | ((repeat (first | with_reducible apply WF_uI | with_reducible apply WF_uL | with_reducible apply WF_th | with_reducible apply WF_fillL | with_reducible apply WF_fgt)); with_reducible assumption) | omega | (simp only [uI_1, uL_1, th_1, uI_R, uL_R]; with_reducible assumption)) only [e_363, b_363_0, ↓pI_137, th_e, ↓s_isPerson', ↓s_isDay', ↓reduceIte, i10, av_cI_r, av_cL_r, av_cV_r, Option.bind_some, ↓zb_0, ↓zb_1, ↓zb_b, bI_0, q1, q3, q4, q5, Bool.true_eq_false]
      exact e2
end
