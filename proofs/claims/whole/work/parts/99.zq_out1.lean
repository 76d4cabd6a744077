/-! made, with the law's array written in between -/
section
variable {X : av_X} {d : Nat} {h : av_H}
theorem made_ok2 (w : WF h) (J : J_tow h) (Jw : J_wi h) (Jr : J_ru h) (Dp : J_dp h) (i z : Int32) :
    (∃ v h1, ev X (d + 6) 141 [vr (some 0), vi i, vi z] h = av_rI v h1 ∧ WF h1 ∧ ∀ y : Int64, ∃ h2, ev X (d + 6) 302 [vr (some 137), vi i, vi z] (av_uL h1 225 0 y) = av_rI v h2 ∧ h2.2.1 137 0 = 0 ∧ h2.2.2.1 225 0 = y ∧ WF h2 ∧ off false [64, 71, 76, 166, 167, 225] [(137, 0)] h h2) ∨
    (ev X (d + 6) 141 [vr (some 0), vi i, vi z] h = av_rX (av_new h 12 0) ∧ ev X (d + 6) 302 [vr (some 137), vi i, vi z] (av_new h 12 0) = av_rI 0 (av_uI (av_new h 12 0) 137 0 1)) := by
  obtain ⟨m, D, M, N, B, Dc, Dr, W⟩ := Dp
  have h60 := B.1
  have hl := w.len
  have n45 : (av_new h 12 0).2.1 137 45 = nI m := by
    show va_up h.2.1 h.1.length (fun _ => 0) 137 45 = nI m
    rw [va_up_ne _ _ (by omega)]
    exact Dr.1
  cases no : (rg i 0 ((nI m).toInt - 1) && rg z 0 11) with
  | false =>
    refine Or.inr ⟨?_, made_no (WF_new w) n45 h60 no⟩
    rw [e_141, b_141_0, gIv_0_17 w Dc.1, c_below']
    cases q1 : rg i 0 ((nI m).toInt - 1) with
    | false => rw [if_pos (show bI false = 0 from rfl)]
    | true =>
      rw [q1, Bool.true_and] at no
      rw [if_neg (show ¬ bI true = 0 by decide), c_within', tI_0, tI_11, no, if_pos (show bI false = 0 from rfl)]
  | true =>
    obtain ⟨q1, q2⟩ : rg i 0 ((nI m).toInt - 1) = true ∧ rg z 0 11 = true := by simpa only [Bool.and_eq_true] using no
    obtain ⟨i, him, rfl⟩ : ∃ j, j < m ∧ i = nI j := by
      have q3 := q1
      rw [rg, decide_eq_true_eq, toI_nI (by omega)] at q3
      obtain ⟨j, hj, rfl⟩ := rg_nI (v := i) (b := 60) (by decide) (by rw [rg, decide_eq_true_eq]; omega)
      refine ⟨j, ?_, rfl⟩
      rw [toI_nI (by omega)] at q3
      omega
    obtain ⟨z, hz, rfl⟩ := rg_nI (b := 11) (by decide) q2
    refine Or.inl ?_
    have P := Dc.2 i him
    have bB := B.2.1 i him
    obtain ⟨b0, b1, b2, b3, b4, b5, b6, b7, b8, -⟩ := B.2.1 i him
    have wz : ∀ y : Int64, WF (av_uL h 225 0 y) := fun y => WF_uL w
    have wzt : ∀ y : Int64, WF (th (av_uL h 225 0 y)) := fun y => WF_uI (WF_uL w)
    have Rz : ∀ y : Int64, dpr (th (av_uL h 225 0 y)) i (D i) (N i) := fun y => (Dr.2 i him).t (agr.uI rfl (agr.uL rfl agr.rfl))
    have cc : ∀ (v : Int32), (∃ h1, ev X (d + 6) 141 [vr (some 0), vi (nI i), vi (nI z)] h = av_rI v h1 ∧ tC h h1 ∧ ∀ y : Int64, ∃ h2, bd X (d + 5) 302 15 [(0, vr (some 137)), (1, vi (nI i)), (2, vi (nI z))] [vi 0, vr (some 137)] (av_uL h1 225 0 y) = av_rI v h2 ∧ tQ (th (av_uL h1 225 0 y)) h2) → ∃ v h1, ev X (d + 6) 141 [vr (some 0), vi (nI i), vi (nI z)] h = av_rI v h1 ∧ WF h1 ∧ ∀ y : Int64, ∃ h2, ev X (d + 6) 302 [vr (some 137), vi (nI i), vi (nI z)] (av_uL h1 225 0 y) = av_rI v h2 ∧ h2.2.1 137 0 = 0 ∧ h2.2.2.1 225 0 = y ∧ WF h2 ∧ off false [64, 71, 76, 166, 167, 225] [(137, 0)] h h2 := fun v ⟨h1, e1, T1, H⟩ => by
      refine ⟨v, h1, e1, T1.1, fun y => ?_⟩
      obtain ⟨h2, e2, T2⟩ := H y
      have Ty : off false [64, 71, 76, 225] [] h (av_uL h1 225 0 y) := agr.uL rfl (T1.2.up (by decide))
      have wy : WF (av_uL h1 225 0 y) := WF_uL T1.1
      refine ⟨h2, ?_, ?_, ((T2.2.fr (q := false) (cs := [225]) (fs := []) (by decide)).L rfl).trans uL_eq, T2.1, agr.tr (agr.uI rfl (Ty.up (by decide))) (T2.2.up (by decide))⟩
      · have e45 : (av_uL h1 225 0 y).2.1 137 45 = nI m := ((Ty.fr (q := false) (cs := []) (fs := [(137, 45)]) (by decide)).I rfl).trans Dr.1
        rw [e_302, b_302_0, if_neg (nI_pos (by omega)), gIv_137_45 wy e45, if_pos (nI_lt him (by omega)), s_within', tI_0, tI_11, q2, if_neg (show ¬ bI true = 0 by decide)]
        exact e2
      · exact ((T2.2.fr (q := false) (cs := []) (fs := [(137, 0)]) (by decide)).I rfl).trans uI_eq
    rcases (show z = 0 ∨ z = 1 ∨ z = 2 ∨ z = 3 ∨ z = 4 ∨ z = 5 ∨ z = 6 ∨ z = 7 ∨ z = 8 ∨ z = 9 ∨ z = 10 ∨ z = 11 by omega) with rfl | rfl | rfl | rfl | rfl | rfl | rfl | rfl | rfl | rfl | rfl | rfl
    · refine cc (nI (D i 0)) ⟨h, ?_, ⟨w, agr.rfl⟩, fun y => ⟨th (av_uL h 225 0 y), ?_, ⟨WF_uI (WF_uL w), agr.rfl⟩⟩⟩
      · rw [e_141, b_141_0, gIv_0_17 w Dc.1, c_below', q1, if_neg (show ¬ bI true = 0 by decide), c_within', tI_0, tI_11, q2, if_neg (show ¬ bI true = 0 by decide), gR_0_13 w, dr_l w (by omega), if_pos (by decide), dr_g w (by omega) P.1 (by decide)]
      · obtain ⟨p0, p1, p2, p4, p5, p6, p7, p8, p9, p12, p15, p16, p17, p13, p14, p10, p11, p18⟩ := Rz y
        rw [b_302_15, pI_137 (wz y), th_e, gI_137_0 (wzt y), show (th (av_uL h 225 0 y)).2.1 137 0 = 0 from uI_eq, if_neg (by decide), if_pos (by decide), gR_137_46 (wzt y), ld_168 (wzt y) (by omega), p0]
    · refine cc (nI (D i 1)) ⟨h, ?_, ⟨w, agr.rfl⟩, fun y => ⟨th (av_uL h 225 0 y), ?_, ⟨WF_uI (WF_uL w), agr.rfl⟩⟩⟩
      · rw [e_141, b_141_0, gIv_0_17 w Dc.1, c_below', q1, if_neg (show ¬ bI true = 0 by decide), c_within', tI_0, tI_11, q2, if_neg (show ¬ bI true = 0 by decide), gR_0_13 w, dr_l w (by omega), if_neg (by decide), if_pos (by decide), dr_g w (by omega) P.1 (by decide)]
      · obtain ⟨p0, p1, p2, p4, p5, p6, p7, p8, p9, p12, p15, p16, p17, p13, p14, p10, p11, p18⟩ := Rz y
        rw [b_302_15, pI_137 (wz y), th_e, gI_137_0 (wzt y), show (th (av_uL h 225 0 y)).2.1 137 0 = 0 from uI_eq, if_neg (by decide), if_neg (by decide), if_pos (by decide), gR_137_47 (wzt y), ld_169 (wzt y) (by omega), p1]
    · refine cc (nI (D i 2)) ⟨h, ?_, ⟨w, agr.rfl⟩, fun y => ⟨th (av_uL h 225 0 y), ?_, ⟨WF_uI (WF_uL w), agr.rfl⟩⟩⟩
      · rw [e_141, b_141_0, gIv_0_17 w Dc.1, c_below', q1, if_neg (show ¬ bI true = 0 by decide), c_within', tI_0, tI_11, q2, if_neg (show ¬ bI true = 0 by decide), gR_0_13 w, dr_l w (by omega), if_neg (by decide), if_neg (by decide), if_pos (by decide), dr_g w (by omega) P.1 (by decide)]
      · obtain ⟨p0, p1, p2, p4, p5, p6, p7, p8, p9, p12, p15, p16, p17, p13, p14, p10, p11, p18⟩ := Rz y
        rw [b_302_15, pI_137 (wz y), th_e, gI_137_0 (wzt y), show (th (av_uL h 225 0 y)).2.1 137 0 = 0 from uI_eq, if_neg (by decide), if_neg (by decide), if_neg (by decide), if_pos (by decide), gR_137_48 (wzt y), ld_170 (wzt y) (by omega), p2]
    · refine cc (nI (D i 4)) ⟨h, ?_, ⟨w, agr.rfl⟩, fun y => ⟨th (av_uL h 225 0 y), ?_, ⟨WF_uI (WF_uL w), agr.rfl⟩⟩⟩
      · rw [e_141, b_141_0, gIv_0_17 w Dc.1, c_below', q1, if_neg (show ¬ bI true = 0 by decide), c_within', tI_0, tI_11, q2, if_neg (show ¬ bI true = 0 by decide), gR_0_13 w, dr_l w (by omega), if_neg (by decide), if_neg (by decide), if_neg (by decide), if_pos (by decide), dr_g w (by omega) P.1 (by decide)]
      · obtain ⟨p0, p1, p2, p4, p5, p6, p7, p8, p9, p12, p15, p16, p17, p13, p14, p10, p11, p18⟩ := Rz y
        rw [b_302_15, pI_137 (wz y), th_e, gI_137_0 (wzt y), show (th (av_uL h 225 0 y)).2.1 137 0 = 0 from uI_eq, if_neg (by decide), if_neg (by decide), if_neg (by decide), if_neg (by decide), if_pos (by decide), gR_137_49 (wzt y), ld_171 (wzt y) (by omega), p4]
    · refine cc (nI (D i 5)) ⟨h, ?_, ⟨w, agr.rfl⟩, fun y => ⟨th (av_uL h 225 0 y), ?_, ⟨WF_uI (WF_uL w), agr.rfl⟩⟩⟩
      · rw [e_141, b_141_0, gIv_0_17 w Dc.1, c_below', q1, if_neg (show ¬ bI true = 0 by decide), c_within', tI_0, tI_11, q2, if_neg (show ¬ bI true = 0 by decide), gR_0_13 w, dr_l w (by omega), if_neg (by decide), if_neg (by decide), if_neg (by decide), if_neg (by decide), if_pos (by decide), dr_g w (by omega) P.1 (by decide)]
      · obtain ⟨p0, p1, p2, p4, p5, p6, p7, p8, p9, p12, p15, p16, p17, p13, p14, p10, p11, p18⟩ := Rz y
        rw [b_302_15, pI_137 (wz y), th_e, gI_137_0 (wzt y), show (th (av_uL h 225 0 y)).2.1 137 0 = 0 from uI_eq, if_neg (by decide), if_neg (by decide), if_neg (by decide), if_neg (by decide), if_neg (by decide), if_pos (by decide), gR_137_50 (wzt y), ld_172 (wzt y) (by omega), p5]
    · refine cc (nI (D i 6)) ⟨h, ?_, ⟨w, agr.rfl⟩, fun y => ⟨th (av_uL h 225 0 y), ?_, ⟨WF_uI (WF_uL w), agr.rfl⟩⟩⟩
      · rw [e_141, b_141_0, gIv_0_17 w Dc.1, c_below', q1, if_neg (show ¬ bI true = 0 by decide), c_within', tI_0, tI_11, q2, if_neg (show ¬ bI true = 0 by decide), gR_0_13 w, dr_l w (by omega), if_neg (by decide), if_neg (by decide), if_neg (by decide), if_neg (by decide), if_neg (by decide), if_pos (by decide), dr_g w (by omega) P.1 (by decide)]
      · obtain ⟨p0, p1, p2, p4, p5, p6, p7, p8, p9, p12, p15, p16, p17, p13, p14, p10, p11, p18⟩ := Rz y
        rw [b_302_15, pI_137 (wz y), th_e, gI_137_0 (wzt y), show (th (av_uL h 225 0 y)).2.1 137 0 = 0 from uI_eq, if_neg (by decide), if_neg (by decide), if_neg (by decide), if_neg (by decide), if_neg (by decide), if_neg (by decide), if_pos (by decide), gR_137_51 (wzt y), ld_173 (wzt y) (by omega), p6]
    · refine cc (nI (D i 12)) ⟨h, ?_, ⟨w, agr.rfl⟩, fun y => ⟨th (av_uL h 225 0 y), ?_, ⟨WF_uI (WF_uL w), agr.rfl⟩⟩⟩
      · rw [e_141, b_141_0, gIv_0_17 w Dc.1, c_below', q1, if_neg (show ¬ bI true = 0 by decide), c_within', tI_0, tI_11, q2, if_neg (show ¬ bI true = 0 by decide), gR_0_13 w, dr_l w (by omega), if_neg (by decide), if_neg (by decide), if_neg (by decide), if_neg (by decide), if_neg (by decide), if_neg (by decide), if_pos (by decide), dr_g w (by omega) P.1 (by decide)]
      · obtain ⟨p0, p1, p2, p4, p5, p6, p7, p8, p9, p12, p15, p16, p17, p13, p14, p10, p11, p18⟩ := Rz y
        rw [b_302_15, pI_137 (wz y), th_e, gI_137_0 (wzt y), show (th (av_uL h 225 0 y)).2.1 137 0 = 0 from uI_eq, if_neg (by decide), if_neg (by decide), if_neg (by decide), if_neg (by decide), if_neg (by decide), if_neg (by decide), if_neg (by decide), if_pos (by decide), gR_137_55 (wzt y), ld_177 (wzt y) (by omega), p12]
    · refine cc (nI (D i 15)) ⟨h, ?_, ⟨w, agr.rfl⟩, fun y => ⟨th (av_uL h 225 0 y), ?_, ⟨WF_uI (WF_uL w), agr.rfl⟩⟩⟩
      · rw [e_141, b_141_0, gIv_0_17 w Dc.1, c_below', q1, if_neg (show ¬ bI true = 0 by decide), c_within', tI_0, tI_11, q2, if_neg (show ¬ bI true = 0 by decide), gR_0_13 w, dr_l w (by omega), if_neg (by decide), if_neg (by decide), if_neg (by decide), if_neg (by decide), if_neg (by decide), if_neg (by decide), if_neg (by decide), if_pos (by decide), dr_g w (by omega) P.1 (by decide)]
      · obtain ⟨p0, p1, p2, p4, p5, p6, p7, p8, p9, p12, p15, p16, p17, p13, p14, p10, p11, p18⟩ := Rz y
        rw [b_302_15, pI_137 (wz y), th_e, gI_137_0 (wzt y), show (th (av_uL h 225 0 y)).2.1 137 0 = 0 from uI_eq, if_neg (by decide), if_neg (by decide), if_neg (by decide), if_neg (by decide), if_neg (by decide), if_neg (by decide), if_neg (by decide), if_neg (by decide), if_pos (by decide), gR_137_56 (wzt y), ld_178 (wzt y) (by omega), p15]
    · refine cc (nI (D i 16)) ⟨h, ?_, ⟨w, agr.rfl⟩, fun y => ⟨th (av_uL h 225 0 y), ?_, ⟨WF_uI (WF_uL w), agr.rfl⟩⟩⟩
      · rw [e_141, b_141_0, gIv_0_17 w Dc.1, c_below', q1, if_neg (show ¬ bI true = 0 by decide), c_within', tI_0, tI_11, q2, if_neg (show ¬ bI true = 0 by decide), gR_0_13 w, dr_l w (by omega), if_neg (by decide), if_neg (by decide), if_neg (by decide), if_neg (by decide), if_neg (by decide), if_neg (by decide), if_neg (by decide), if_neg (by decide), if_pos (by decide), dr_g w (by omega) P.1 (by decide)]
      · obtain ⟨p0, p1, p2, p4, p5, p6, p7, p8, p9, p12, p15, p16, p17, p13, p14, p10, p11, p18⟩ := Rz y
        rw [b_302_15, pI_137 (wz y), th_e, gI_137_0 (wzt y), show (th (av_uL h 225 0 y)).2.1 137 0 = 0 from uI_eq, if_neg (by decide), if_neg (by decide), if_neg (by decide), if_neg (by decide), if_neg (by decide), if_neg (by decide), if_neg (by decide), if_neg (by decide), if_neg (by decide), if_pos (by decide), gR_137_57 (wzt y), ld_179 (wzt y) (by omega), p16]
    · refine cc (nI (D i 17)) ⟨h, ?_, ⟨w, agr.rfl⟩, fun y => ⟨th (av_uL h 225 0 y), ?_, ⟨WF_uI (WF_uL w), agr.rfl⟩⟩⟩
      · rw [e_141, b_141_0, gIv_0_17 w Dc.1, c_below', q1, if_neg (show ¬ bI true = 0 by decide), c_within', tI_0, tI_11, q2, if_neg (show ¬ bI true = 0 by decide), gR_0_13 w, dr_l w (by omega), if_neg (by decide), if_neg (by decide), if_neg (by decide), if_neg (by decide), if_neg (by decide), if_neg (by decide), if_neg (by decide), if_neg (by decide), if_neg (by decide), if_pos (by decide), dr_g w (by omega) P.1 (by decide)]
      · obtain ⟨p0, p1, p2, p4, p5, p6, p7, p8, p9, p12, p15, p16, p17, p13, p14, p10, p11, p18⟩ := Rz y
        rw [b_302_15, pI_137 (wz y), th_e, gI_137_0 (wzt y), show (th (av_uL h 225 0 y)).2.1 137 0 = 0 from uI_eq, if_neg (by decide), if_neg (by decide), if_neg (by decide), if_neg (by decide), if_neg (by decide), if_neg (by decide), if_neg (by decide), if_neg (by decide), if_neg (by decide), if_neg (by decide), if_pos (by decide), gR_137_58 (wzt y), ld_180 (wzt y) (by omega), p17]
    · obtain ⟨u, oo, c, q⟩ := Jr
      obtain ⟨a, V, W0, -, -⟩ := tw_of J B W him
      obtain ⟨h1, T1, e1⟩ := c_isStopped (X := X) (d := d + 1) (show tC h h from ⟨w, agr.rfl⟩) oo c Jw (show i < 60 by omega) P.k W0 b1 b4 b6.2
      refine cc (bI (anyN (D i 6) (D i 5) (fun k => u.st (fcD h (D i) k)))) ⟨h1, ?_, T1, fun y => ?_⟩
      · rw [e_141, b_141_0, gIv_0_17 w Dc.1, c_below', q1, if_neg (show ¬ bI true = 0 by decide), c_within', tI_0, tI_11, q2, if_neg (show ¬ bI true = 0 by decide), gR_0_13 w, dr_l w (by omega), if_neg (by decide), if_neg (by decide), if_neg (by decide), if_neg (by decide), if_neg (by decide), if_neg (by decide), if_neg (by decide), if_neg (by decide), if_neg (by decide), if_neg (by decide), if_pos (by decide), is_0 w, e1, av_cI_r, Option.bind_some, rI_bI]
      · have Ty : off false [64, 71, 76, 225] [] h (av_uL h1 225 0 y) := agr.uL rfl (T1.2.up (by decide))
        have A2 : agr (FP false ([2, 143, 146, 154, 161, 162, 163, 164, 165] ++ rCells) [(137, 45), (137, 37), (137, 38), (137, 41)]) h (th (av_uL h1 225 0 y)) := agr.uI rfl (Ty.fr (by decide +kernel))
        have wt1 : WF (th (av_uL h1 225 0 y)) := WF_uI (WF_uL T1.1)
        obtain ⟨h2, T2, e2⟩ := s_isAgainst (X := X) (d := d + 1) (show tQ (th (av_uL h1 225 0 y)) (th (av_uL h1 225 0 y)) from ⟨wt1, agr.rfl⟩) oo (q.fr (A2.sub (by decide +kernel))) (Jw.fr (A2.sub (by decide +kernel))) (show i < 60 by omega) ((Dr.2 i him).t (A2.sub (by decide +kernel))) b0 b1 b4 b6.2 ((A2.I rfl).trans (W.2 i him))
        rw [← agD, agD_fr (A2.sub (by decide +kernel)), agD] at e2
        refine ⟨h2, ?_, T2⟩
        rw [b_302_15, pI_137 (WF_uL T1.1), th_e, gI_137_0 wt1, show (th (av_uL h1 225 0 y)).2.1 137 0 = 0 from uI_eq, if_neg (by decide), if_neg (by decide), if_neg (by decide), if_neg (by decide), if_neg (by decide), if_neg (by decide), if_neg (by decide), if_neg (by decide), if_neg (by decide), if_neg (by decide), if_neg (by decide), if_pos (by decide), is_137 wt1, e2, av_cI_r, Option.bind_some, rI_bI]
    · refine cc (nI (rwF (D i) (D i 6) 0 0)) ⟨h, ?_, ⟨w, agr.rfl⟩, fun y => ⟨th (av_uL h 225 0 y), ?_, ⟨WF_uI (WF_uL w), agr.rfl⟩⟩⟩
      · rw [e_141, b_141_0, gIv_0_17 w Dc.1, c_below', q1, if_neg (show ¬ bI true = 0 by decide), c_within', tI_0, tI_11, q2, if_neg (show ¬ bI true = 0 by decide), gR_0_13 w, dr_l w (by omega), if_neg (by decide), if_neg (by decide), if_neg (by decide), if_neg (by decide), if_neg (by decide), if_neg (by decide), if_neg (by decide), if_neg (by decide), if_neg (by decide), if_neg (by decide), if_neg (by decide), dr_is w (by omega), e_10, b_10_0]
        have e := rw_c (X := X) (d := d + 3) w (show i < 60 by omega) P bB (D i 6) 0 0 (by omega) (by omega)
        dsimp only
        rw [show (0 : Int32) = nI 0 from rfl, e, av_cI_r, Option.bind_some]
      · obtain ⟨p0, p1, p2, p4, p5, p6, p7, p8, p9, p12, p15, p16, p17, p13, p14, p10, p11, p18⟩ := Rz y
        rw [b_302_15, pI_137 (wz y), th_e, gI_137_0 (wzt y), show (th (av_uL h 225 0 y)).2.1 137 0 = 0 from uI_eq, if_neg (by decide), if_neg (by decide), if_neg (by decide), if_neg (by decide), if_neg (by decide), if_neg (by decide), if_neg (by decide), if_neg (by decide), if_neg (by decide), if_neg (by decide), if_neg (by decide), if_neg (by decide), is_137 (wzt y), e_301, b_301_0, gR_137_10 (wzt y), gR_137_46 (wzt y), ld_168 (wzt y) (by omega), p0, ld_143 (wzt y) b0, th_I (by decide), uL_I, W.2 i him]
        have e := rw_s (X := X) (d := d + 3) (wzt y) (show i < 60 by omega) (Rz y) bB (D i 6) 0 0 (by omega) (by omega)
        rw [show (0 : Int32) = nI 0 from rfl, e, av_cI_r, Option.bind_some]
end
