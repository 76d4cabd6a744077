/-! learnt -/
section
variable {X : av_X} {d : Nat} {h : av_H}
theorem c_bes {i M : Nat} {D : Nat → Nat} (w : WF h) (hi : i < 60) (P : dpc h i D M) (p : Int32) : ev X (d + 1) 4 [vr (some (77 + i)), vi p] h = av_rI (nI (if nI (D 8) = p then D 9 else D 8)) h := by
  have hD := P.1
  by_cases q : nI (D 8) = p <;> simp (disch := first | ((repeat (first | with_reducible apply WF_uI | with_reducible apply WF_uL | with_reducible apply WF_th | with_reducible apply WF_fillL | with_reducible apply WF_fgt)); with_reducible assumption) | omega | (simp only [uI_1, uL_1, th_1, uI_R, uL_R]; with_reducible assumption)) only [e_4, b_4_0, ↓dr_g (D := D), q, ↓reduceIte, i10, av_cI_r, av_cL_r, av_cV_r, Option.bind_some, ↓zb_0, ↓zb_1, ↓zb_b]
theorem c_bes' {i M : Nat} {D : Nat → Nat} (w : WF h) (hi : i < 60) (P : dpc h i D M) (p : Int32) {β : Type} (Kc : Int32 × av_H → Option β) : (av_cI (ev X (d + 1) 4 [vr (some (77 + i)), vi p] h)).bind Kc = Kc (nI (if nI (D 8) = p then D 9 else D 8), h) := by rw [c_bes w hi P p]; rfl
theorem learnt_lp {g : av_H} {m : Nat} {D : Nat → Nat → Nat} {M N : Nat → Nat} (E : EN h g m D M N) {e : Nat} (h27 : h.2.1 27 3 = nI e) (he : e < 1024) (hE : ∀ q, q < 10 → g.2.1 159 q = bI (e.testBit q)) (p b : Int32) {d' : Nat} : ∀ n i (v : Int32), i + n = m → v < b → ∃ r,
    bd X (d + 3) 176 14 [(0, vr (some 0)), (1, vi p), (2, vi b), (3, vi v), (4, vi (nI i))] [] h = av_rI r h ∧
    bd X (d' + 1) 364 17 [(0, vr (some 137)), (1, vi p), (2, vi b), (3, vi v), (4, vi (nI i))] [] g = av_rI r g
  | 0, i, v, hi, _ => by
    obtain ⟨w, w', Bd, C, R⟩ := E
    have h60 := Bd.1
    refine ⟨-1, ?_, ?_⟩
    · rw [b_176_14, gIv_0_17 w C.1, if_neg (nI_nlt (by omega) (by omega))]
    · rw [b_364_17, gIv_137_45 w' R.1, if_neg (nI_nlt (by omega) (by omega))]
  | n + 1, i, v, hi, hv => by
    have ih := fun v => learnt_lp E h27 he hE p b (d' := d') n (i + 1) v (by omega)
    obtain ⟨w, w', Bd, ⟨c17, C⟩, ⟨r45, R⟩⟩ := E; have h60 := Bd.1; have lt : i < m := (by omega); have dB := Bd.2.1 i (by omega); have P := C i (by omega); have hD := P.1; have Q := R i (by omega); obtain ⟨p0, p1, p2, p4, p5, p6, p7, p8, p9, p12, p15, p16, p17, p13, p14, p10, p11, p18⟩ := R i (by omega)
    obtain ⟨-, -, -, -, -, -, -, -, -, b8, b9, -⟩ := dB
    have hb8 := hE (D i 8) b8
    have hb9 := hE (D i 9) b9
    have hq : (if nI (D i 8) = p then D i 9 else D i 8) < 32 := by split <;> omega
    rcases bdi (prs (D i) p) with q1 | q1
    · obtain ⟨r, e1, e2⟩ := ih v hv
      refine ⟨r, ?_, ?_⟩
      · rw [b_176_14]
        simp (disch := first | ((repeat (first | with_reducible apply WF_uI | with_reducible apply WF_uL | with_reducible apply WF_th | with_reducible apply WF_fillL | with_reducible apply WF_fgt)); with_reducible assumption) | omega | (simp only [uI_1, uL_1, th_1, uI_R, uL_R]; with_reducible assumption)) only [↓gIv_0_17 (v := nI m), nI_ltI, lt, ↓gR_0_13, ↓dr_l, ↓dr_is, ↓dr_g (D := D i), ↓c_hasP' (D := D i) (M := M i), ↓c_within', ↓reduceIte, i10, av_cI_r, av_cL_r, av_cV_r, Option.bind_some, ↓zb_0, ↓zb_1, ↓zb_b, bI_0, Bool.true_eq_false, nI_1,  q1, e1]
      · rw [b_364_17]
        simp (disch := first | ((repeat (first | with_reducible apply WF_uI | with_reducible apply WF_uL | with_reducible apply WF_th | with_reducible apply WF_fillL | with_reducible apply WF_fgt)); with_reducible assumption) | omega | (simp only [uI_1, uL_1, th_1, uI_R, uL_R]; with_reducible assumption)) only [↓gIv_137_45 (v := nI m), nI_ltI, lt, ↓is_137, ↓s_isIn' (D := D i) (N := N i), ↓s_within', ↓reduceIte, i10, av_cI_r, av_cL_r, av_cV_r, Option.bind_some, ↓zb_0, ↓zb_1, ↓zb_b, bI_0, Bool.true_eq_false, nI_1, Int32.add_zero, p0, p1, p2, p4, p5, p6, p7, p8, p9, p12, p15, p16, p17, p13, p14, p10, p11,  q1, b_364_51, b_364_52, hv, e2]
    · have R44 : ∀ y : Int32, bd X (d' + 1) 364 17 [(0, vr (some 137)), (1, vi p), (2, vi b), (3, vi v), (4, vi (nI i))] [] g = if e.testBit (if nI (D i 8) = p then D i 9 else D i 8) = false then bd X (d' + 1) 364 51 [(0, vr (some 137)), (1, vi p), (2, vi b), (4, vi (nI i))] [vi v] g else bd X (d' + 1) 364 52 [(0, vr (some 137)), (1, vi p), (2, vi b), (4, vi (nI i))] [vi (nI (D i 6)), vi v] g := fun y => by
        rw [b_364_17]
        by_cases q : nI (D i 8) = p
        · simp (disch := first | ((repeat (first | with_reducible apply WF_uI | with_reducible apply WF_uL | with_reducible apply WF_th | with_reducible apply WF_fillL | with_reducible apply WF_fgt)); with_reducible assumption) | omega | (simp only [uI_1, uL_1, th_1, uI_R, uL_R]; with_reducible assumption)) only [↓gIv_137_45 (v := nI m), nI_ltI, lt, ↓is_137, ↓s_isIn' (D := D i) (N := N i), ↓s_within', ↓reduceIte, i10, av_cI_r, av_cL_r, av_cV_r, Option.bind_some, ↓zb_0, ↓zb_1, ↓zb_b, bI_0, Bool.true_eq_false, nI_1, Int32.add_zero, p0, p1, p2, p4, p5, p6, p7, p8, p9, p12, p15, p16, p17, p13, p14, p10, p11,  q1, q, ↓gR_137_28, ↓gR_137_53, ↓gR_137_54, ↓gR_137_51, ↓ld_175, ↓ld_176, ↓ld_173, b_364_44, ↓ld_159, hb9]
        · simp (disch := first | ((repeat (first | with_reducible apply WF_uI | with_reducible apply WF_uL | with_reducible apply WF_th | with_reducible apply WF_fillL | with_reducible apply WF_fgt)); with_reducible assumption) | omega | (simp only [uI_1, uL_1, th_1, uI_R, uL_R]; with_reducible assumption)) only [↓gIv_137_45 (v := nI m), nI_ltI, lt, ↓is_137, ↓s_isIn' (D := D i) (N := N i), ↓s_within', ↓reduceIte, i10, av_cI_r, av_cL_r, av_cV_r, Option.bind_some, ↓zb_0, ↓zb_1, ↓zb_b, bI_0, Bool.true_eq_false, nI_1, Int32.add_zero, p0, p1, p2, p4, p5, p6, p7, p8, p9, p12, p15, p16, p17, p13, p14, p10, p11,  q1, q, ↓gR_137_28, ↓gR_137_53, ↓gR_137_54, ↓gR_137_51, ↓ld_175, ↓ld_176, ↓ld_173, b_364_44, ↓ld_159, hb8]
      rcases bdi (e.testBit (if nI (D i 8) = p then D i 9 else D i 8)) with q2 | q2
      · obtain ⟨r, e1, e2⟩ := ih v hv
        refine ⟨r, ?_, ?_⟩
        · rw [b_176_14]
          simp (disch := first | ((repeat (first | with_reducible apply WF_uI | with_reducible apply WF_uL | with_reducible apply WF_th | with_reducible apply WF_fillL | with_reducible apply WF_fgt)); with_reducible assumption) | omega | (simp only [uI_1, uL_1, th_1, uI_R, uL_R]; with_reducible assumption)) only [↓gIv_0_17 (v := nI m), nI_ltI, lt, ↓gR_0_13, ↓dr_l, ↓dr_is, ↓dr_g (D := D i), ↓c_hasP' (D := D i) (M := M i), ↓c_within', ↓reduceIte, i10, av_cI_r, av_cL_r, av_cV_r, Option.bind_some, ↓zb_0, ↓zb_1, ↓zb_b, bI_0, Bool.true_eq_false, nI_1,  q1, ↓gR_0_6, ↓is_27, ↓c_bes' (D := D i) (M := M i), ↓c_isEl' (b := e), q2, e1]
        · rw [R44 0, if_pos q2]
          simp (disch := first | ((repeat (first | with_reducible apply WF_uI | with_reducible apply WF_uL | with_reducible apply WF_th | with_reducible apply WF_fillL | with_reducible apply WF_fgt)); with_reducible assumption) | omega | (simp only [uI_1, uL_1, th_1, uI_R, uL_R]; with_reducible assumption)) only [↓gIv_137_45 (v := nI m), nI_ltI, lt, ↓is_137, ↓s_isIn' (D := D i) (N := N i), ↓s_within', ↓reduceIte, i10, av_cI_r, av_cL_r, av_cV_r, Option.bind_some, ↓zb_0, ↓zb_1, ↓zb_b, bI_0, Bool.true_eq_false, nI_1, Int32.add_zero, p0, p1, p2, p4, p5, p6, p7, p8, p9, p12, p15, p16, p17, p13, p14, p10, p11,  b_364_51, b_364_52, hv, e2]
      · by_cases q3 : v + nI (D i 6) < b
        · obtain ⟨r, e1, e2⟩ := ih (v + nI (D i 6)) q3
          refine ⟨r, ?_, ?_⟩
          · rw [b_176_14]
            simp (disch := first | ((repeat (first | with_reducible apply WF_uI | with_reducible apply WF_uL | with_reducible apply WF_th | with_reducible apply WF_fillL | with_reducible apply WF_fgt)); with_reducible assumption) | omega | (simp only [uI_1, uL_1, th_1, uI_R, uL_R]; with_reducible assumption)) only [↓gIv_0_17 (v := nI m), nI_ltI, lt, ↓gR_0_13, ↓dr_l, ↓dr_is, ↓dr_g (D := D i), ↓c_hasP' (D := D i) (M := M i), ↓c_within', ↓reduceIte, i10, av_cI_r, av_cL_r, av_cV_r, Option.bind_some, ↓zb_0, ↓zb_1, ↓zb_b, bI_0, Bool.true_eq_false, nI_1,  q1, ↓gR_0_6, ↓is_27, ↓c_bes' (D := D i) (M := M i), ↓c_isEl' (b := e), q2, q3, e1]
          · rw [R44 0, if_neg (by rw [q2]; decide)]
            simp (disch := first | ((repeat (first | with_reducible apply WF_uI | with_reducible apply WF_uL | with_reducible apply WF_th | with_reducible apply WF_fillL | with_reducible apply WF_fgt)); with_reducible assumption) | omega | (simp only [uI_1, uL_1, th_1, uI_R, uL_R]; with_reducible assumption)) only [↓gIv_137_45 (v := nI m), nI_ltI, lt, ↓is_137, ↓s_isIn' (D := D i) (N := N i), ↓s_within', ↓reduceIte, i10, av_cI_r, av_cL_r, av_cV_r, Option.bind_some, ↓zb_0, ↓zb_1, ↓zb_b, bI_0, Bool.true_eq_false, nI_1, Int32.add_zero, p0, p1, p2, p4, p5, p6, p7, p8, p9, p12, p15, p16, p17, p13, p14, p10, p11,  b_364_52, q3, e2]
        · refine ⟨nI (D i 4), ?_, ?_⟩
          · rw [b_176_14]
            simp (disch := first | ((repeat (first | with_reducible apply WF_uI | with_reducible apply WF_uL | with_reducible apply WF_th | with_reducible apply WF_fillL | with_reducible apply WF_fgt)); with_reducible assumption) | omega | (simp only [uI_1, uL_1, th_1, uI_R, uL_R]; with_reducible assumption)) only [↓gIv_0_17 (v := nI m), nI_ltI, lt, ↓gR_0_13, ↓dr_l, ↓dr_is, ↓dr_g (D := D i), ↓c_hasP' (D := D i) (M := M i), ↓c_within', ↓reduceIte, i10, av_cI_r, av_cL_r, av_cV_r, Option.bind_some, ↓zb_0, ↓zb_1, ↓zb_b, bI_0, Bool.true_eq_false, nI_1,  q1, ↓gR_0_6, ↓is_27, ↓c_bes' (D := D i) (M := M i), ↓c_isEl' (b := e), q2, q3]
          · rw [R44 0, if_neg (by rw [q2]; decide)]
            simp (disch := first | ((repeat (first | with_reducible apply WF_uI | with_reducible apply WF_uL | with_reducible apply WF_th | with_reducible apply WF_fillL | with_reducible apply WF_fgt)); with_reducible assumption) | omega | (simp only [uI_1, uL_1, th_1, uI_R, uL_R]; with_reducible assumption)) only [↓gIv_137_45 (v := nI m), nI_ltI, lt, ↓is_137, ↓s_isIn' (D := D i) (N := N i), ↓s_within', ↓reduceIte, i10, av_cI_r, av_cL_r, av_cV_r, Option.bind_some, ↓zb_0, ↓zb_1, ↓zb_b, bI_0, Bool.true_eq_false, nI_1, Int32.add_zero, p0, p1, p2, p4, p5, p6, p7, p8, p9, p12, p15, p16, p17, p13, p14, p10, p11,  b_364_52, q3, ↓gR_137_49, ↓ld_171]
theorem learnt_ok (w : WF h) (Dp : J_dp h) (Le : J_el h) (p b : Int32) : ∃ v h1 h2, ev X (d + 5) 176 [vr (some 0), vi p, vi b] h = av_rI v h1 ∧ ev X (d + 5) 364 [vr (some 137), vi p, vi b] h1 = av_rI v h2 ∧ WF h2 ∧ off false [] [(137, 0)] h h2 := by
  cases ok : (rg p 0 9 && rg b 1 999) with
  | false =>
    refine ⟨-1, h, th h, ?_, ?_, w, agr.uI rfl agr.rfl⟩
    · rcases bdi (rg p 0 9) with q1 | q1
      · simp (disch := first | ((repeat (first | with_reducible apply WF_uI | with_reducible apply WF_uL | with_reducible apply WF_th | with_reducible apply WF_fillL | with_reducible apply WF_fgt)); with_reducible assumption) | omega | (simp only [uI_1, uL_1, th_1, uI_R, uL_R]; with_reducible assumption)) only [e_176, b_176_0, ↓c_isPerson', ↓c_within', ↓reduceIte, i10, av_cI_r, av_cL_r, av_cV_r, Option.bind_some, ↓zb_0, ↓zb_1, ↓zb_b, bI_0, tI_1, tI_999, q1, Bool.true_eq_false]
      rcases bdi (rg b 1 999) with q2 | q2
      · simp (disch := first | ((repeat (first | with_reducible apply WF_uI | with_reducible apply WF_uL | with_reducible apply WF_th | with_reducible apply WF_fillL | with_reducible apply WF_fgt)); with_reducible assumption) | omega | (simp only [uI_1, uL_1, th_1, uI_R, uL_R]; with_reducible assumption)) only [e_176, b_176_0, ↓c_isPerson', ↓c_within', ↓reduceIte, i10, av_cI_r, av_cL_r, av_cV_r, Option.bind_some, ↓zb_0, ↓zb_1, ↓zb_b, bI_0, tI_1, tI_999, q1, q2, Bool.true_eq_false]
      simp [q1, q2] at ok
    · rcases bdi (rg p 0 9) with q1 | q1
      · simp (disch := first | ((repeat (first | with_reducible apply WF_uI | with_reducible apply WF_uL | with_reducible apply WF_th | with_reducible apply WF_fillL | with_reducible apply WF_fgt)); with_reducible assumption) | omega | (simp only [uI_1, uL_1, th_1, uI_R, uL_R]; with_reducible assumption)) only [e_364, b_364_0, ↓pI_137, th_e, ↓s_isPerson', ↓s_within', ↓reduceIte, i10, av_cI_r, av_cL_r, av_cV_r, Option.bind_some, ↓zb_0, ↓zb_1, ↓zb_b, bI_0, tI_1, tI_999, q1, Bool.true_eq_false]
      rcases bdi (rg b 1 999) with q2 | q2
      · simp (disch := first | ((repeat (first | with_reducible apply WF_uI | with_reducible apply WF_uL | with_reducible apply WF_th | with_reducible apply WF_fillL | with_reducible apply WF_fgt)); with_reducible assumption) | omega | (simp only [uI_1, uL_1, th_1, uI_R, uL_R]; with_reducible assumption)) only [e_364, b_364_0, ↓pI_137, th_e, ↓s_isPerson', ↓s_within', ↓reduceIte, i10, av_cI_r, av_cL_r, av_cV_r, Option.bind_some, ↓zb_0, ↓zb_1, ↓zb_b, bI_0, tI_1, tI_999, q1, q2, Bool.true_eq_false]
      simp [q1, q2] at ok
  | true =>
    obtain ⟨q1, q2⟩ : rg p 0 9 = true ∧ rg b 1 999 = true := by simpa only [Bool.and_eq_true] using ok
    have b0 : (0 : Int32) < b := by
      have q2' := q2
      simp only [rg, decide_eq_true_eq] at q2'
      rw [i_lt, tI_0]
      omega
    obtain ⟨m, D, M, N, E, W⟩ := Dp.EN w
    obtain ⟨el, l1, l2, l3⟩ := Le
    obtain ⟨v, e1, e2⟩ := learnt_lp (X := X) (d := d + 1) (d' := d + 3) E l2 l1 (fun q hq => by rw [th_I (by decide)]; exact l3 q hq) p b m 0 0 (by omega) b0
    refine ⟨v, h, th h, ?_, ?_, w, agr.uI rfl agr.rfl⟩
    · simp (disch := first | ((repeat (first | with_reducible apply WF_uI | with_reducible apply WF_uL | with_reducible apply WF_th | with_reducible apply WF_fillL | with_reducible apply WF_fgt)); with_reducible assumption) | omega | (simp only [uI_1, uL_1, th_1, uI_R, uL_R]; with_reducible assumption)) only [e_176, b_176_0, ↓c_isPerson', ↓c_within', ↓reduceIte, i10, av_cI_r, av_cL_r, av_cV_r, Option.bind_some, ↓zb_0, ↓zb_1, ↓zb_b, bI_0, tI_1, tI_999, q1, q2, Bool.true_eq_false]
      exact e1
    · simp (disch := first | ((repeat (first | with_reducible apply WF_uI | with_reducible apply WF_uL | with_reducible apply WF_th | with_reducible apply WF_fillL | with_reducible apply WF_fgt)); with_reducible assumption) | omega | (simp only [uI_1, uL_1, th_1, uI_R, uL_R]; with_reducible assumption)) only [e_364, b_364_0, ↓pI_137, th_e, ↓s_isPerson', ↓s_within', ↓reduceIte, i10, av_cI_r, av_cL_r, av_cV_r, Option.bind_some, ↓zb_0, ↓zb_1, ↓zb_b, bI_0, tI_1, tI_999, q1, q2, Bool.true_eq_false]
      exact e2
end
