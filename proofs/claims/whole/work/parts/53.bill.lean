/-! bill -/
section
variable {X : av_X} {d : Nat} {h : av_H}
theorem c_bill {i M : Nat} {D : Nat → Nat} (w : WF h) (hi : i < 60) (P : dpc h i D M) (z : Int32) : ev X (d + 1) 9 [vr (some (77 + i)), vi z] h = av_rL ((if z = 0 then (nI (D 16)).toInt64 else if z = 1 then (nI (D 17)).toInt64 else if z = 2 then (nI (D 6)).toInt64 else if z = 3 then (nI (D 12)).toInt64 else 1)) h := by
  have hD := P.1
  simp (disch := first | ((repeat (first | with_reducible apply WF_uI | with_reducible apply WF_uL | with_reducible apply WF_th | with_reducible apply WF_fillL | with_reducible apply WF_fgt)); with_reducible assumption) | omega | (simp only [uI_1, uL_1, th_1, uI_R, uL_R]; with_reducible assumption)) only [e_9, b_9_0, ↓dr_g (D := D), ↓reduceIte, i10, av_cI_r, av_cL_r, av_cV_r, Option.bind_some, ↓zb_0, ↓zb_1, ↓zb_b]
  split
  · rfl
  · split
    · rfl
    · split
      · rfl
      · split <;> rfl
theorem c_bill' {i M : Nat} {D : Nat → Nat} (w : WF h) (hi : i < 60) (P : dpc h i D M) (z : Int32) {β : Type} (Kc : Int64 × av_H → Option β) : (av_cL (ev X (d + 1) 9 [vr (some (77 + i)), vi z] h)).bind Kc = Kc ((if z = 0 then (nI (D 16)).toInt64 else if z = 1 then (nI (D 17)).toInt64 else if z = 2 then (nI (D 6)).toInt64 else if z = 3 then (nI (D 12)).toInt64 else 1), h) := by rw [c_bill w hi P z]; rfl
/-- a drop is of this tower, or any will do -/
theorem bill_lp {g : av_H} {m : Nat} {D : Nat → Nat → Nat} {M N : Nat → Nat} (E : EN h g m D M N) (t a b z : Int32) {d' : Nat} : ∀ n i (v : Int64), i + n = m → ∃ r,
    bd X (d + 3) 149 22 [(0, vr (some 0)), (1, vi t), (2, vi a), (3, vi b), (4, vi z), (5, vl v), (7, vi (nI i))] [] h = av_rL r h ∧
    bd X (d' + 1) 317 30 [(0, vr (some 137)), (1, vi t), (2, vi a), (3, vi b), (4, vi z), (5, vl v), (7, vi (nI i))] [] g = av_rL r g
  | 0, i, v, hi => by
    obtain ⟨w, w', Bd, C, R⟩ := E
    have h60 := Bd.1
    refine ⟨v, ?_, ?_⟩
    · rw [b_149_22, gIv_0_17 w C.1, if_neg (nI_nlt (by omega) (by omega))]
    · rw [b_317_30, gIv_137_45 w' R.1, if_neg (nI_nlt (by omega) (by omega))]
  | n + 1, i, v, hi => by
    have ih := fun v => bill_lp E t a b z (d' := d') n (i + 1) v (by omega)
    obtain ⟨w, w', Bd, ⟨c17, C⟩, ⟨r45, R⟩⟩ := E; have h60 := Bd.1; have lt : i < m := (by omega); have dB := Bd.2.1 i (by omega); have P := C i (by omega); have hD := P.1; have Q := R i (by omega); obtain ⟨p0, p1, p2, p4, p5, p6, p7, p8, p9, p12, p15, p16, p17, p13, p14, p10, p11, p18⟩ := R i (by omega)
    have step : ∃ r, bd X (d + 3) 149 38 [(0, vr (some 0)), (1, vi t), (2, vi a), (3, vi b), (4, vi z), (5, vl v), (7, vi (nI i)), (8, vr (some (77 + i)))] [] h = av_rL r h ∧ bd X (d' + 1) 317 43 [(0, vr (some 137)), (1, vi t), (2, vi a), (3, vi b), (4, vi z), (5, vl v), (7, vi (nI i))] [] g = av_rL r g := by
      rcases bdi (rg (nI (D i 4)) a.toInt b.toInt) with q1 | q1
      · obtain ⟨r, e1, e2⟩ := ih v
        refine ⟨r, ?_, ?_⟩
        · rw [b_149_38]
          simp (disch := first | ((repeat (first | with_reducible apply WF_uI | with_reducible apply WF_uL | with_reducible apply WF_th | with_reducible apply WF_fillL | with_reducible apply WF_fgt)); with_reducible assumption) | omega | (simp only [uI_1, uL_1, th_1, uI_R, uL_R]; with_reducible assumption)) only [↓gIv_0_17 (v := nI m), nI_ltI, lt, ↓gR_0_13, ↓dr_l, ↓dr_is, ↓dr_g (D := D i), ↓c_hasP' (D := D i) (M := M i), ↓c_within', ↓reduceIte, i10, av_cI_r, av_cL_r, av_cV_r, Option.bind_some, ↓zb_0, ↓zb_1, ↓zb_b, bI_0, Bool.true_eq_false, nI_1,  q1, e1]
        · rw [b_317_43]
          simp (disch := first | ((repeat (first | with_reducible apply WF_uI | with_reducible apply WF_uL | with_reducible apply WF_th | with_reducible apply WF_fillL | with_reducible apply WF_fgt)); with_reducible assumption) | omega | (simp only [uI_1, uL_1, th_1, uI_R, uL_R]; with_reducible assumption)) only [↓gIv_137_45 (v := nI m), nI_ltI, lt, ↓is_137, ↓s_isIn' (D := D i) (N := N i), ↓s_within', ↓reduceIte, i10, av_cI_r, av_cL_r, av_cV_r, Option.bind_some, ↓zb_0, ↓zb_1, ↓zb_b, bI_0, Bool.true_eq_false, nI_1, Int32.add_zero, p0, p1, p2, p4, p5, p6, p7, p8, p9, p12, p15, p16, p17, p13, p14, p10, p11,  ↓gR_137_49, ↓ld_171, q1, e2]
      · obtain ⟨r, e1, e2⟩ := ih (v + (if z = 0 then (nI (D i 16)).toInt64 else if z = 1 then (nI (D i 17)).toInt64 else if z = 2 then (nI (D i 6)).toInt64 else if z = 3 then (nI (D i 12)).toInt64 else 1))
        refine ⟨r, ?_, ?_⟩
        · rw [b_149_38]
          simp (disch := first | ((repeat (first | with_reducible apply WF_uI | with_reducible apply WF_uL | with_reducible apply WF_th | with_reducible apply WF_fillL | with_reducible apply WF_fgt)); with_reducible assumption) | omega | (simp only [uI_1, uL_1, th_1, uI_R, uL_R]; with_reducible assumption)) only [↓gIv_0_17 (v := nI m), nI_ltI, lt, ↓gR_0_13, ↓dr_l, ↓dr_is, ↓dr_g (D := D i), ↓c_hasP' (D := D i) (M := M i), ↓c_within', ↓reduceIte, i10, av_cI_r, av_cL_r, av_cV_r, Option.bind_some, ↓zb_0, ↓zb_1, ↓zb_b, bI_0, Bool.true_eq_false, nI_1,  ↓c_bill' (D := D i) (M := M i), q1, e1]
        · rw [b_317_43, ← e2]
          by_cases z0 : z = 0
          · simp (disch := first | ((repeat (first | with_reducible apply WF_uI | with_reducible apply WF_uL | with_reducible apply WF_th | with_reducible apply WF_fillL | with_reducible apply WF_fgt)); with_reducible assumption) | omega | (simp only [uI_1, uL_1, th_1, uI_R, uL_R]; with_reducible assumption)) only [↓gIv_137_45 (v := nI m), nI_ltI, lt, ↓is_137, ↓s_isIn' (D := D i) (N := N i), ↓s_within', ↓reduceIte, i10, av_cI_r, av_cL_r, av_cV_r, Option.bind_some, ↓zb_0, ↓zb_1, ↓zb_b, bI_0, Bool.true_eq_false, nI_1, Int32.add_zero, p0, p1, p2, p4, p5, p6, p7, p8, p9, p12, p15, p16, p17, p13, p14, p10, p11,  ↓gR_137_49, ↓ld_171, q1, z0, ↓gR_137_57, ↓ld_179]
          · by_cases z1 : z = 1
            · simp (disch := first | ((repeat (first | with_reducible apply WF_uI | with_reducible apply WF_uL | with_reducible apply WF_th | with_reducible apply WF_fillL | with_reducible apply WF_fgt)); with_reducible assumption) | omega | (simp only [uI_1, uL_1, th_1, uI_R, uL_R]; with_reducible assumption)) only [↓gIv_137_45 (v := nI m), nI_ltI, lt, ↓is_137, ↓s_isIn' (D := D i) (N := N i), ↓s_within', ↓reduceIte, i10, av_cI_r, av_cL_r, av_cV_r, Option.bind_some, ↓zb_0, ↓zb_1, ↓zb_b, bI_0, Bool.true_eq_false, nI_1, Int32.add_zero, p0, p1, p2, p4, p5, p6, p7, p8, p9, p12, p15, p16, p17, p13, p14, p10, p11,  ↓gR_137_49, ↓ld_171, q1, z1, ↓gR_137_58, ↓ld_180]
            · by_cases z2 : z = 2
              · simp (disch := first | ((repeat (first | with_reducible apply WF_uI | with_reducible apply WF_uL | with_reducible apply WF_th | with_reducible apply WF_fillL | with_reducible apply WF_fgt)); with_reducible assumption) | omega | (simp only [uI_1, uL_1, th_1, uI_R, uL_R]; with_reducible assumption)) only [↓gIv_137_45 (v := nI m), nI_ltI, lt, ↓is_137, ↓s_isIn' (D := D i) (N := N i), ↓s_within', ↓reduceIte, i10, av_cI_r, av_cL_r, av_cV_r, Option.bind_some, ↓zb_0, ↓zb_1, ↓zb_b, bI_0, Bool.true_eq_false, nI_1, Int32.add_zero, p0, p1, p2, p4, p5, p6, p7, p8, p9, p12, p15, p16, p17, p13, p14, p10, p11,  ↓gR_137_49, ↓ld_171, q1, z2, ↓gR_137_51, ↓ld_173, show ¬ (2 : Int32) = 0 by decide, show ¬ (2 : Int32) = 1 by decide]
              · by_cases z3 : z = 3
                · simp (disch := first | ((repeat (first | with_reducible apply WF_uI | with_reducible apply WF_uL | with_reducible apply WF_th | with_reducible apply WF_fillL | with_reducible apply WF_fgt)); with_reducible assumption) | omega | (simp only [uI_1, uL_1, th_1, uI_R, uL_R]; with_reducible assumption)) only [↓gIv_137_45 (v := nI m), nI_ltI, lt, ↓is_137, ↓s_isIn' (D := D i) (N := N i), ↓s_within', ↓reduceIte, i10, av_cI_r, av_cL_r, av_cV_r, Option.bind_some, ↓zb_0, ↓zb_1, ↓zb_b, bI_0, Bool.true_eq_false, nI_1, Int32.add_zero, p0, p1, p2, p4, p5, p6, p7, p8, p9, p12, p15, p16, p17, p13, p14, p10, p11,  ↓gR_137_49, ↓ld_171, q1, z3, ↓gR_137_55, ↓ld_177, show ¬ (3 : Int32) = 0 by decide, show ¬ (3 : Int32) = 1 by decide, show ¬ (3 : Int32) = 2 by decide]
                · simp (disch := first | ((repeat (first | with_reducible apply WF_uI | with_reducible apply WF_uL | with_reducible apply WF_th | with_reducible apply WF_fillL | with_reducible apply WF_fgt)); with_reducible assumption) | omega | (simp only [uI_1, uL_1, th_1, uI_R, uL_R]; with_reducible assumption)) only [↓gIv_137_45 (v := nI m), nI_ltI, lt, ↓is_137, ↓s_isIn' (D := D i) (N := N i), ↓s_within', ↓reduceIte, i10, av_cI_r, av_cL_r, av_cV_r, Option.bind_some, ↓zb_0, ↓zb_1, ↓zb_b, bI_0, Bool.true_eq_false, nI_1, Int32.add_zero, p0, p1, p2, p4, p5, p6, p7, p8, p9, p12, p15, p16, p17, p13, p14, p10, p11,  ↓gR_137_49, ↓ld_171, q1, z0, z1, z2, z3]
    rcases Classical.em (t = -1) with q0 | q0
    · obtain ⟨r, e1, e2⟩ := step
      refine ⟨r, ?_, ?_⟩
      · rw [b_149_22]
        rw [← e1]
        simp (disch := first | ((repeat (first | with_reducible apply WF_uI | with_reducible apply WF_uL | with_reducible apply WF_th | with_reducible apply WF_fillL | with_reducible apply WF_fgt)); with_reducible assumption) | omega | (simp only [uI_1, uL_1, th_1, uI_R, uL_R]; with_reducible assumption)) only [↓gIv_0_17 (v := nI m), nI_ltI, lt, ↓gR_0_13, ↓dr_l, ↓dr_is, ↓dr_g (D := D i), ↓c_hasP' (D := D i) (M := M i), ↓c_within', ↓reduceIte, i10, av_cI_r, av_cL_r, av_cV_r, Option.bind_some, ↓zb_0, ↓zb_1, ↓zb_b, bI_0, Bool.true_eq_false, nI_1,  q0]
      · rw [b_317_30]
        rw [← e2]
        simp (disch := first | ((repeat (first | with_reducible apply WF_uI | with_reducible apply WF_uL | with_reducible apply WF_th | with_reducible apply WF_fillL | with_reducible apply WF_fgt)); with_reducible assumption) | omega | (simp only [uI_1, uL_1, th_1, uI_R, uL_R]; with_reducible assumption)) only [↓gIv_137_45 (v := nI m), nI_ltI, lt, ↓is_137, ↓s_isIn' (D := D i) (N := N i), ↓s_within', ↓reduceIte, i10, av_cI_r, av_cL_r, av_cV_r, Option.bind_some, ↓zb_0, ↓zb_1, ↓zb_b, bI_0, Bool.true_eq_false, nI_1, Int32.add_zero, p0, p1, p2, p4, p5, p6, p7, p8, p9, p12, p15, p16, p17, p13, p14, p10, p11,  q0]
    · by_cases q2 : nI (D i 0) = t
      · obtain ⟨r, e1, e2⟩ := step
        refine ⟨r, ?_, ?_⟩
        · rw [b_149_22]
          simp (disch := first | ((repeat (first | with_reducible apply WF_uI | with_reducible apply WF_uL | with_reducible apply WF_th | with_reducible apply WF_fillL | with_reducible apply WF_fgt)); with_reducible assumption) | omega | (simp only [uI_1, uL_1, th_1, uI_R, uL_R]; with_reducible assumption)) only [↓gIv_0_17 (v := nI m), nI_ltI, lt, ↓gR_0_13, ↓dr_l, ↓dr_is, ↓dr_g (D := D i), ↓c_hasP' (D := D i) (M := M i), ↓c_within', ↓reduceIte, i10, av_cI_r, av_cL_r, av_cV_r, Option.bind_some, ↓zb_0, ↓zb_1, ↓zb_b, bI_0, Bool.true_eq_false, nI_1,  q0, q2, e1]
        · rw [b_317_30]
          simp (disch := first | ((repeat (first | with_reducible apply WF_uI | with_reducible apply WF_uL | with_reducible apply WF_th | with_reducible apply WF_fillL | with_reducible apply WF_fgt)); with_reducible assumption) | omega | (simp only [uI_1, uL_1, th_1, uI_R, uL_R]; with_reducible assumption)) only [↓gIv_137_45 (v := nI m), nI_ltI, lt, ↓is_137, ↓s_isIn' (D := D i) (N := N i), ↓s_within', ↓reduceIte, i10, av_cI_r, av_cL_r, av_cV_r, Option.bind_some, ↓zb_0, ↓zb_1, ↓zb_b, bI_0, Bool.true_eq_false, nI_1, Int32.add_zero, p0, p1, p2, p4, p5, p6, p7, p8, p9, p12, p15, p16, p17, p13, p14, p10, p11,  ↓gR_137_46, ↓ld_168, q0, q2, e2]
      · obtain ⟨r, e1, e2⟩ := ih v
        refine ⟨r, ?_, ?_⟩
        · rw [b_149_22]
          simp (disch := first | ((repeat (first | with_reducible apply WF_uI | with_reducible apply WF_uL | with_reducible apply WF_th | with_reducible apply WF_fillL | with_reducible apply WF_fgt)); with_reducible assumption) | omega | (simp only [uI_1, uL_1, th_1, uI_R, uL_R]; with_reducible assumption)) only [↓gIv_0_17 (v := nI m), nI_ltI, lt, ↓gR_0_13, ↓dr_l, ↓dr_is, ↓dr_g (D := D i), ↓c_hasP' (D := D i) (M := M i), ↓c_within', ↓reduceIte, i10, av_cI_r, av_cL_r, av_cV_r, Option.bind_some, ↓zb_0, ↓zb_1, ↓zb_b, bI_0, Bool.true_eq_false, nI_1,  q0, q2, e1]
        · rw [b_317_30]
          simp (disch := first | ((repeat (first | with_reducible apply WF_uI | with_reducible apply WF_uL | with_reducible apply WF_th | with_reducible apply WF_fillL | with_reducible apply WF_fgt)); with_reducible assumption) | omega | (simp only [uI_1, uL_1, th_1, uI_R, uL_R]; with_reducible assumption)) only [↓gIv_137_45 (v := nI m), nI_ltI, lt, ↓is_137, ↓s_isIn' (D := D i) (N := N i), ↓s_within', ↓reduceIte, i10, av_cI_r, av_cL_r, av_cV_r, Option.bind_some, ↓zb_0, ↓zb_1, ↓zb_b, bI_0, Bool.true_eq_false, nI_1, Int32.add_zero, p0, p1, p2, p4, p5, p6, p7, p8, p9, p12, p15, p16, p17, p13, p14, p10, p11,  ↓gR_137_46, ↓ld_168, q0, q2, e2]
theorem bill_ok (w : WF h) (J : J_tow h) (Dp : J_dp h) (t a b z : Int32) : ∃ v h1 h2, ev X (d + 5) 149 [vr (some 0), vi t, vi a, vi b, vi z] h = av_rL v h1 ∧ ev X (d + 5) 317 [vr (some 137), vi t, vi a, vi b, vi z] h1 = av_rL v h2 ∧ WF h2 ∧ off false [] [(137, 0)] h h2 := by
  have hk : (a ≤ b) = ¬ b < a := by simp only [eq_iff_iff]; exact Int32.not_lt.symm
  have C7 : ∃ v, bd X (d + 4) 149 7 [(0, vr (some 0)), (1, vi t), (2, vi a), (3, vi b), (4, vi z)] [] h = av_rL v h ∧ bd X (d + 4) 317 10 [(0, vr (some 137)), (1, vi t), (2, vi a), (3, vi b), (4, vi z)] [] (th h) = av_rL v (th h) := by
    cases ok : (dys a b && rg z 0 4) with
    | false =>
      refine ⟨-1, ?_, ?_⟩
      · rcases bdi (dys a b) with q2 | q2
        · simp (disch := first | ((repeat (first | with_reducible apply WF_uI | with_reducible apply WF_uL | with_reducible apply WF_th | with_reducible apply WF_fillL | with_reducible apply WF_fgt)); with_reducible assumption) | omega | (simp only [uI_1, uL_1, th_1, uI_R, uL_R]; with_reducible assumption)) only [b_149_7, ↓c_areDays', ↓c_within', dys_e, ↓reduceIte, i10, av_cI_r, av_cL_r, av_cV_r, Option.bind_some, ↓zb_0, ↓zb_1, ↓zb_b, bI_0, tI_0, tI_4, q2, Bool.true_eq_false]
        rcases bdi (rg z 0 4) with q3 | q3
        · simp (disch := first | ((repeat (first | with_reducible apply WF_uI | with_reducible apply WF_uL | with_reducible apply WF_th | with_reducible apply WF_fillL | with_reducible apply WF_fgt)); with_reducible assumption) | omega | (simp only [uI_1, uL_1, th_1, uI_R, uL_R]; with_reducible assumption)) only [b_149_7, ↓c_areDays', ↓c_within', dys_e, ↓reduceIte, i10, av_cI_r, av_cL_r, av_cV_r, Option.bind_some, ↓zb_0, ↓zb_1, ↓zb_b, bI_0, tI_0, tI_4, q2, q3, Bool.true_eq_false]
        simp [q2, q3] at ok
      · rcases bdi (rg a 0 99) with q2 | q2
        · simp (disch := first | ((repeat (first | with_reducible apply WF_uI | with_reducible apply WF_uL | with_reducible apply WF_th | with_reducible apply WF_fillL | with_reducible apply WF_fgt)); with_reducible assumption) | omega | (simp only [uI_1, uL_1, th_1, uI_R, uL_R]; with_reducible assumption)) only [b_317_10, ↓s_isDay', ↓s_within', ↓reduceIte, i10, av_cI_r, av_cL_r, av_cV_r, Option.bind_some, ↓zb_0, ↓zb_1, ↓zb_b, bI_0, tI_0, tI_4, q2, Bool.true_eq_false]
        rcases bdi (rg b 0 99) with q3 | q3
        · simp (disch := first | ((repeat (first | with_reducible apply WF_uI | with_reducible apply WF_uL | with_reducible apply WF_th | with_reducible apply WF_fillL | with_reducible apply WF_fgt)); with_reducible assumption) | omega | (simp only [uI_1, uL_1, th_1, uI_R, uL_R]; with_reducible assumption)) only [b_317_10, ↓s_isDay', ↓s_within', ↓reduceIte, i10, av_cI_r, av_cL_r, av_cV_r, Option.bind_some, ↓zb_0, ↓zb_1, ↓zb_b, bI_0, tI_0, tI_4, q2, q3, Bool.true_eq_false]
        rcases Classical.em (b < a) with q5 | q5
        · simp (disch := first | ((repeat (first | with_reducible apply WF_uI | with_reducible apply WF_uL | with_reducible apply WF_th | with_reducible apply WF_fillL | with_reducible apply WF_fgt)); with_reducible assumption) | omega | (simp only [uI_1, uL_1, th_1, uI_R, uL_R]; with_reducible assumption)) only [b_317_10, ↓s_isDay', ↓s_within', ↓reduceIte, i10, av_cI_r, av_cL_r, av_cV_r, Option.bind_some, ↓zb_0, ↓zb_1, ↓zb_b, bI_0, tI_0, tI_4, q2, q3, q5, Bool.true_eq_false]
        rcases bdi (rg z 0 4) with q4 | q4
        · simp (disch := first | ((repeat (first | with_reducible apply WF_uI | with_reducible apply WF_uL | with_reducible apply WF_th | with_reducible apply WF_fillL | with_reducible apply WF_fgt)); with_reducible assumption) | omega | (simp only [uI_1, uL_1, th_1, uI_R, uL_R]; with_reducible assumption)) only [b_317_10, ↓s_isDay', ↓s_within', ↓reduceIte, i10, av_cI_r, av_cL_r, av_cV_r, Option.bind_some, ↓zb_0, ↓zb_1, ↓zb_b, bI_0, tI_0, tI_4, q2, q3, q5, q4, Bool.true_eq_false]
        simp [dys, hk, q2, q3, q4, q5] at ok
    | true =>
      obtain ⟨q2, q3⟩ : dys a b = true ∧ rg z 0 4 = true := by simpa only [Bool.and_eq_true] using ok
      obtain ⟨⟨q6, q4⟩, q5⟩ : (rg a 0 99 = true ∧ rg b 0 99 = true) ∧ ¬ b < a := by simpa only [dys, hk, Bool.and_eq_true, decide_eq_true_eq] using q2
      obtain ⟨m, D, M, N, E, W⟩ := Dp.EN w
      obtain ⟨v, e1, e2⟩ := bill_lp (X := X) (d := d + 1) (d' := d + 3) E t a b z m 0 0 (by omega)
      refine ⟨v, ?_, ?_⟩
      · simp (disch := first | ((repeat (first | with_reducible apply WF_uI | with_reducible apply WF_uL | with_reducible apply WF_th | with_reducible apply WF_fillL | with_reducible apply WF_fgt)); with_reducible assumption) | omega | (simp only [uI_1, uL_1, th_1, uI_R, uL_R]; with_reducible assumption)) only [b_149_7, ↓c_areDays', ↓c_within', dys_e, ↓reduceIte, i10, av_cI_r, av_cL_r, av_cV_r, Option.bind_some, ↓zb_0, ↓zb_1, ↓zb_b, bI_0, tI_0, tI_4, q2, q3, Bool.true_eq_false]
        exact e1
      · simp (disch := first | ((repeat (first | with_reducible apply WF_uI | with_reducible apply WF_uL | with_reducible apply WF_th | with_reducible apply WF_fillL | with_reducible apply WF_fgt)); with_reducible assumption) | omega | (simp only [uI_1, uL_1, th_1, uI_R, uL_R]; with_reducible assumption)) only [b_317_10, ↓s_isDay', ↓s_within', ↓reduceIte, i10, av_cI_r, av_cL_r, av_cV_r, Option.bind_some, ↓zb_0, ↓zb_1, ↓zb_b, bI_0, tI_0, tI_4, q3, q4, q5, q6, Bool.true_eq_false]
        exact e2
  obtain ⟨v, e1, e2⟩ := C7
  by_cases q0 : t = -1
  · refine ⟨v, h, th h, ?_, ?_, w, agr.uI rfl agr.rfl⟩
    · rw [← e1]
      simp (disch := first | ((repeat (first | with_reducible apply WF_uI | with_reducible apply WF_uL | with_reducible apply WF_th | with_reducible apply WF_fillL | with_reducible apply WF_fgt)); with_reducible assumption) | omega | (simp only [uI_1, uL_1, th_1, uI_R, uL_R]; with_reducible assumption)) only [e_149, b_149_0, q0, ↓reduceIte]
    · rw [← e2]
      simp (disch := first | ((repeat (first | with_reducible apply WF_uI | with_reducible apply WF_uL | with_reducible apply WF_th | with_reducible apply WF_fillL | with_reducible apply WF_fgt)); with_reducible assumption) | omega | (simp only [uI_1, uL_1, th_1, uI_R, uL_R]; with_reducible assumption)) only [e_317, b_317_0, ↓pI_137, th_e, q0, ↓reduceIte]
  · cases q1 : told h t with
    | false =>
      refine ⟨-1, h, th h, ?_, ?_, w, agr.uI rfl agr.rfl⟩
      · simp (disch := first | ((repeat (first | with_reducible apply WF_uI | with_reducible apply WF_uL | with_reducible apply WF_th | with_reducible apply WF_fillL | with_reducible apply WF_fgt)); with_reducible assumption) | omega | (simp only [uI_1, uL_1, th_1, uI_R, uL_R]; with_reducible assumption)) only [e_149, b_149_0, q0, ↓is_0, ↓c_isTold', ↓reduceIte, i10, av_cI_r, av_cL_r, av_cV_r, Option.bind_some, ↓zb_0, ↓zb_1, ↓zb_b, bI_0, q1]
      · simp (disch := first | ((repeat (first | with_reducible apply WF_uI | with_reducible apply WF_uL | with_reducible apply WF_th | with_reducible apply WF_fillL | with_reducible apply WF_fgt)); with_reducible assumption) | omega | (simp only [uI_1, uL_1, th_1, uI_R, uL_R]; with_reducible assumption)) only [e_317, b_317_0, ↓pI_137, th_e, q0, ↓is_137, ↓s_isTower', told_th, ↓reduceIte, i10, av_cI_r, av_cL_r, av_cV_r, Option.bind_some, ↓zb_0, ↓zb_1, ↓zb_b, bI_0, q1]
    | true =>
      refine ⟨v, h, th h, ?_, ?_, w, agr.uI rfl agr.rfl⟩
      · simp (disch := first | ((repeat (first | with_reducible apply WF_uI | with_reducible apply WF_uL | with_reducible apply WF_th | with_reducible apply WF_fillL | with_reducible apply WF_fgt)); with_reducible assumption) | omega | (simp only [uI_1, uL_1, th_1, uI_R, uL_R]; with_reducible assumption)) only [e_149, b_149_0, q0, ↓is_0, ↓c_isTold', ↓reduceIte, i10, av_cI_r, av_cL_r, av_cV_r, Option.bind_some, ↓zb_0, ↓zb_1, ↓zb_b, bI_0, q1, Bool.true_eq_false, e1]
      · simp (disch := first | ((repeat (first | with_reducible apply WF_uI | with_reducible apply WF_uL | with_reducible apply WF_th | with_reducible apply WF_fillL | with_reducible apply WF_fgt)); with_reducible assumption) | omega | (simp only [uI_1, uL_1, th_1, uI_R, uL_R]; with_reducible assumption)) only [e_317, b_317_0, ↓pI_137, th_e, q0, ↓is_137, ↓s_isTower', told_th, ↓reduceIte, i10, av_cI_r, av_cL_r, av_cV_r, Option.bind_some, ↓zb_0, ↓zb_1, ↓zb_b, bI_0, q1, Bool.true_eq_false, e2]
end
