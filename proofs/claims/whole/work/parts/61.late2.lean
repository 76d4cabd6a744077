/-! late, asked -/
section
variable {X : av_X} {d : Nat} {h : av_H}
/-- how many panes of column c are late -/
def ltC (h : av_H) (m : Nat) (D : Nat → Nat → Nat) (M : Nat → Nat) (F t s a : Nat) (x y : Int32) (c f : Nat) : Bool := ltB D M F (blkN h a s c) t s f c x y m
theorem late_c {g : av_H} {m : Nat} {D : Nat → Nat → Nat} {M N : Nat → Nat} (E : EN h g m D M N) {t s a F C : Nat} (h6 : t < 6) (hs : s < 4) (ht : h.2.2.2 1 t = some a) (T : twA h t a) (hF : h.2.1 a 0 = nI F) (F12 : F ≤ 12) (hC : h.2.1 a 1 = nI C) (C10 : C ≤ 10) (e p : Int32) : ∀ n c, c + n = C → bd X (d + 3) 145 21 [(0, vr (some 0)), (1, vi (nI t)), (2, vi (nI s)), (3, vi e), (4, vi p), (5, vi (nI (fb_sm (fun c => fb_ct (ltC h m D M F t s a (e - p + 1) e c) F) c))), (6, vi (nI c))] [] h = av_rI (nI (fb_sm (fun c => fb_ct (ltC h m D M F t s a (e - p + 1) e c) F) C)) h
  | 0, c, hc => by
    obtain rfl : c = C := by omega
    have w := E.1
    obtain ⟨b0, k1, k2, k3, r5, r6, -⟩ := T
    rw [b_145_21, gR_0_0 w, ld1v w h6 ht, tw_gIv k1 hC, if_neg (nI_nlt (by omega) (by omega))]
  | n + 1, c, hc => by
    have ih := late_c E h6 hs ht T hF F12 hC C10 e p n (c + 1) (by omega)
    obtain ⟨w, w', Bd, Cc, R⟩ := E
    obtain ⟨b1, b2, b3⟩ := T.blk hs (show c < 10 by omega)
    obtain ⟨b0, k1, k2, k3, r5, r6, -⟩ := T
    have lt := lfM_lt (D := D) (M := M) (b := blkN h a s c) (t := t) (s := s) (c := c) (x := e - p + 1) (y := e) F12 m
    rw [b_145_21, gR_0_0 w, ld1v w h6 ht, tw_gIv k1 hC, if_pos (nI_lt (by omega) (by omega)), is_0 w, c_lateF' w Bd Cc h6 hs (by omega) ht k1 k2 r5 b2 hF F12, c_bc32' (by omega), lfM_ct F12, nI_add, nI_1]
    exact ih
theorem late_s1 {g : av_H} {m : Nat} {D : Nat → Nat → Nat} {M N : Nat → Nat} (E : EN h g m D M N) {t s a F C f A : Nat} (h6 : t < 6) (hs : s < 4) (T : twA h t a) (hf : f < F) (F12 : F ≤ 12) (g144 : g.2.1 144 t = nI C) (C10 : C ≤ 10) (g145 : g.2.1 145 = h.2.1 145) (e p : Int32) : ∀ n c, c + n = C → bd X (d + 2) 310 30 [(0, vr (some 137)), (1, vi (nI t)), (2, vi (nI s)), (3, vi e), (4, vi p), (5, vi (nI (A + fb_ct (fun c => ltC h m D M F t s a (e - p + 1) e c f) c))), (6, vi (nI f)), (7, vi (nI c))] [] g = bd X (d + 2) 310 22 [(0, vr (some 137)), (1, vi (nI t)), (2, vi (nI s)), (3, vi e), (4, vi p), (5, vi (nI (A + fb_ct (fun c => ltC h m D M F t s a (e - p + 1) e c f) C))), (6, vi (nI (f + 1)))] [] g
  | 0, c, hc => by
    obtain rfl : c = C := by omega
    have w' := E.2.1
    rw [b_310_30, gR_137_11 w', ld_144 w' (by omega), g144, if_neg (nI_nlt (by omega) (by omega)), nI_1]
  | n + 1, c, hc => by
    have ih := late_s1 E (A := A) h6 hs T hf F12 g144 C10 g145 e p n (c + 1) (by omega)
    have w' := E.2.1
    obtain ⟨b1, b2, b3⟩ := T.blk hs (show c < 10 by omega)
    have L := s_isL (X := X) (d := d) E h6 hs (show f < 12 by omega) (show c < 10 by omega) hf e p (b := blkN h a s c) (by rw [g145]; exact b3 f (by omega))
    rw [b_310_30, gR_137_11 w', ld_144 w' (by omega), g144, if_pos (nI_lt (by omega) (by omega)), is_137 w', L, av_cI_r, Option.bind_some, nI_1, nI_1, Int32.add_zero]
    rw [fb_ct_succ, ltC] at ih
    cases q : ltB D M F (blkN h a s c) t s f c (e - p + 1) e m with
    | false =>
      rw [q] at ih
      rw [if_pos (show bI false = 0 from rfl)]
      exact ih
    | true =>
      rw [q] at ih
      rw [if_neg (show ¬ bI true = 0 by decide)]
      exact ih
theorem late_s {g : av_H} {m : Nat} {D : Nat → Nat → Nat} {M N : Nat → Nat} (E : EN h g m D M N) {t s a F C : Nat} (h6 : t < 6) (hs : s < 4) (T : twA h t a) (F12 : F ≤ 12) (g143 : g.2.1 143 t = nI F) (g144 : g.2.1 144 t = nI C) (C10 : C ≤ 10) (g145 : g.2.1 145 = h.2.1 145) (e p : Int32) : ∀ n f, f + n = F → bd X (d + 2) 310 22 [(0, vr (some 137)), (1, vi (nI t)), (2, vi (nI s)), (3, vi e), (4, vi p), (5, vi (nI (fb_sm (fun f => fb_ct (fun c => ltC h m D M F t s a (e - p + 1) e c f) C) f))), (6, vi (nI f))] [] g = av_rI (nI (fb_sm (fun f => fb_ct (fun c => ltC h m D M F t s a (e - p + 1) e c f) C) F)) g
  | 0, f, hf => by
    obtain rfl : f = F := by omega
    have w' := E.2.1
    rw [b_310_22, gR_137_10 w', ld_143 w' (by omega), g143, if_neg (nI_nlt (by omega) (by omega))]
  | n + 1, f, hf => by
    have ih := late_s E h6 hs T F12 g143 g144 C10 g145 e p n (f + 1) (by omega)
    have w' := E.2.1
    rw [b_310_22, gR_137_10 w', ld_143 w' (by omega), g143, if_pos (nI_lt (by omega) (by omega))]
    exact (late_s1 E (A := fb_sm (fun f => fb_ct (fun c => ltC h m D M F t s a (e - p + 1) e c f) C) f) h6 hs T (show f < F by omega) F12 g144 C10 g145 e p C 0 (by omega)).trans ih
def okLt (h : av_H) (t s e p : Int32) : Bool := told h t && rg s 0 3 && rg e 0 99 && rg p 1 99
theorem late_ok (w : WF h) (J : J_tow h) (Dp : J_dp h) (t s e p : Int32) : ∃ v h1 h2, ev X (d + 5) 145 [vr (some 0), vi t, vi s, vi e, vi p] h = av_rI v h1 ∧ ev X (d + 5) 310 [vr (some 137), vi t, vi s, vi e, vi p] h1 = av_rI v h2 ∧ WF h2 ∧ off false [] [(137, 0)] h h2 := by
  cases ok : okLt h t s e p with
  | false =>
    refine ⟨-1, h, th h, ?_, ?_, w, agr.uI rfl agr.rfl⟩
    · rcases bdi (told h t) with q1 | q1
      · simp (disch := first | ((repeat (first | with_reducible apply WF_uI | with_reducible apply WF_uL | with_reducible apply WF_th | with_reducible apply WF_fillL | with_reducible apply WF_fgt)); with_reducible assumption) | omega | (simp only [uI_1, uL_1, th_1, uI_R, uL_R]; with_reducible assumption)) only [e_145, b_145_0, ↓is_0, ↓c_isTold', ↓c_isSide', ↓c_isDay', ↓c_within', ↓reduceIte, i10, av_cI_r, av_cL_r, av_cV_r, Option.bind_some, ↓zb_0, ↓zb_1, ↓zb_b, bI_0, tI_1, tI_99, q1, Bool.true_eq_false]
      rcases bdi (rg s 0 3) with q2 | q2
      · simp (disch := first | ((repeat (first | with_reducible apply WF_uI | with_reducible apply WF_uL | with_reducible apply WF_th | with_reducible apply WF_fillL | with_reducible apply WF_fgt)); with_reducible assumption) | omega | (simp only [uI_1, uL_1, th_1, uI_R, uL_R]; with_reducible assumption)) only [e_145, b_145_0, ↓is_0, ↓c_isTold', ↓c_isSide', ↓c_isDay', ↓c_within', ↓reduceIte, i10, av_cI_r, av_cL_r, av_cV_r, Option.bind_some, ↓zb_0, ↓zb_1, ↓zb_b, bI_0, tI_1, tI_99, q1, q2, Bool.true_eq_false]
      rcases bdi (rg e 0 99) with q3 | q3
      · simp (disch := first | ((repeat (first | with_reducible apply WF_uI | with_reducible apply WF_uL | with_reducible apply WF_th | with_reducible apply WF_fillL | with_reducible apply WF_fgt)); with_reducible assumption) | omega | (simp only [uI_1, uL_1, th_1, uI_R, uL_R]; with_reducible assumption)) only [e_145, b_145_0, ↓is_0, ↓c_isTold', ↓c_isSide', ↓c_isDay', ↓c_within', ↓reduceIte, i10, av_cI_r, av_cL_r, av_cV_r, Option.bind_some, ↓zb_0, ↓zb_1, ↓zb_b, bI_0, tI_1, tI_99, q1, q2, q3, Bool.true_eq_false]
      rcases bdi (rg p 1 99) with q4 | q4
      · simp (disch := first | ((repeat (first | with_reducible apply WF_uI | with_reducible apply WF_uL | with_reducible apply WF_th | with_reducible apply WF_fillL | with_reducible apply WF_fgt)); with_reducible assumption) | omega | (simp only [uI_1, uL_1, th_1, uI_R, uL_R]; with_reducible assumption)) only [e_145, b_145_0, ↓is_0, ↓c_isTold', ↓c_isSide', ↓c_isDay', ↓c_within', ↓reduceIte, i10, av_cI_r, av_cL_r, av_cV_r, Option.bind_some, ↓zb_0, ↓zb_1, ↓zb_b, bI_0, tI_1, tI_99, q1, q2, q3, q4, Bool.true_eq_false]
      simp [okLt, q1, q2, q3, q4] at ok
    · rcases bdi (told h t) with q1 | q1
      · simp (disch := first | ((repeat (first | with_reducible apply WF_uI | with_reducible apply WF_uL | with_reducible apply WF_th | with_reducible apply WF_fillL | with_reducible apply WF_fgt)); with_reducible assumption) | omega | (simp only [uI_1, uL_1, th_1, uI_R, uL_R]; with_reducible assumption)) only [e_310, b_310_0, ↓pI_137, th_e, ↓is_137, ↓s_isTower', ↓s_isSide', ↓s_isDay', ↓s_isPromise', told_th, ↓reduceIte, i10, av_cI_r, av_cL_r, av_cV_r, Option.bind_some, ↓zb_0, ↓zb_1, ↓zb_b, bI_0, q1, Bool.true_eq_false]
      rcases bdi (rg s 0 3) with q2 | q2
      · simp (disch := first | ((repeat (first | with_reducible apply WF_uI | with_reducible apply WF_uL | with_reducible apply WF_th | with_reducible apply WF_fillL | with_reducible apply WF_fgt)); with_reducible assumption) | omega | (simp only [uI_1, uL_1, th_1, uI_R, uL_R]; with_reducible assumption)) only [e_310, b_310_0, ↓pI_137, th_e, ↓is_137, ↓s_isTower', ↓s_isSide', ↓s_isDay', ↓s_isPromise', told_th, ↓reduceIte, i10, av_cI_r, av_cL_r, av_cV_r, Option.bind_some, ↓zb_0, ↓zb_1, ↓zb_b, bI_0, q1, q2, Bool.true_eq_false]
      rcases bdi (rg e 0 99) with q3 | q3
      · simp (disch := first | ((repeat (first | with_reducible apply WF_uI | with_reducible apply WF_uL | with_reducible apply WF_th | with_reducible apply WF_fillL | with_reducible apply WF_fgt)); with_reducible assumption) | omega | (simp only [uI_1, uL_1, th_1, uI_R, uL_R]; with_reducible assumption)) only [e_310, b_310_0, ↓pI_137, th_e, ↓is_137, ↓s_isTower', ↓s_isSide', ↓s_isDay', ↓s_isPromise', told_th, ↓reduceIte, i10, av_cI_r, av_cL_r, av_cV_r, Option.bind_some, ↓zb_0, ↓zb_1, ↓zb_b, bI_0, q1, q2, q3, Bool.true_eq_false]
      rcases bdi (rg p 1 99) with q4 | q4
      · simp (disch := first | ((repeat (first | with_reducible apply WF_uI | with_reducible apply WF_uL | with_reducible apply WF_th | with_reducible apply WF_fillL | with_reducible apply WF_fgt)); with_reducible assumption) | omega | (simp only [uI_1, uL_1, th_1, uI_R, uL_R]; with_reducible assumption)) only [e_310, b_310_0, ↓pI_137, th_e, ↓is_137, ↓s_isTower', ↓s_isSide', ↓s_isDay', ↓s_isPromise', told_th, ↓reduceIte, i10, av_cI_r, av_cL_r, av_cV_r, Option.bind_some, ↓zb_0, ↓zb_1, ↓zb_b, bI_0, q1, q2, q3, q4, Bool.true_eq_false]
      simp [okLt, q1, q2, q3, q4] at ok
  | true =>
    obtain ⟨⟨⟨q1, q2⟩, q3⟩, q4⟩ : ((told h t = true ∧ rg s 0 3 = true) ∧ rg e 0 99 = true) ∧ rg p 1 99 = true := by simpa only [okLt, Bool.and_eq_true] using ok
    obtain ⟨t, a, h6, rfl, hj, T⟩ := told_ex J q1
    obtain ⟨s, hs, rfl⟩ := rg_nI (b := 3) (by decide) q2
    obtain ⟨F, C, W, L, V, p1, p2, p3, p4, -, -, -, -, -, r1, r2, r3, r4, -⟩ := T.2.2.2.2.2.2.1
    obtain ⟨m, D, M, N, E, -⟩ := Dp.EN w
    refine ⟨nI (fb_sm (fun c => fb_ct (ltC h m D M F t s a (e - p + 1) e c) F) C), h, th h, ?_, ?_, w, agr.uI rfl agr.rfl⟩
    · simp (disch := first | ((repeat (first | with_reducible apply WF_uI | with_reducible apply WF_uL | with_reducible apply WF_th | with_reducible apply WF_fillL | with_reducible apply WF_fgt)); with_reducible assumption) | omega | (simp only [uI_1, uL_1, th_1, uI_R, uL_R]; with_reducible assumption)) only [e_145, b_145_0, ↓is_0, ↓c_isTold', ↓c_isSide', ↓c_isDay', ↓c_within', ↓reduceIte, i10, av_cI_r, av_cL_r, av_cV_r, Option.bind_some, ↓zb_0, ↓zb_1, ↓zb_b, bI_0, tI_1, tI_99, q1, q2, q3, q4, Bool.true_eq_false]
      exact late_c (d := d + 1) E h6 (by omega) hj T r1 p2 r3 p4 e p C 0 (by omega)
    · simp (disch := first | ((repeat (first | with_reducible apply WF_uI | with_reducible apply WF_uL | with_reducible apply WF_th | with_reducible apply WF_fillL | with_reducible apply WF_fgt)); with_reducible assumption) | omega | (simp only [uI_1, uL_1, th_1, uI_R, uL_R]; with_reducible assumption)) only [e_310, b_310_0, ↓pI_137, th_e, ↓is_137, ↓s_isTower', ↓s_isSide', ↓s_isDay', ↓s_isPromise', told_th, ↓reduceIte, i10, av_cI_r, av_cL_r, av_cV_r, Option.bind_some, ↓zb_0, ↓zb_1, ↓zb_b, bI_0, q1, q2, q3, q4, Bool.true_eq_false]
      rw [sm_swap]
      exact late_s (d := d + 2) E h6 (by omega) T p2 (by rw [th_I (by decide)]; exact r2) (by rw [th_I (by decide)]; exact r4) p4 (th_I (by decide)) e p F 0 (by omega)
end
