/-! why -/
theorem hol_in {T P K : Nat → Nat} {B : Nat → Bool} {t hr p : Nat} : ∀ n, hol T P K B t hr n = some p → ∃ i, i < n ∧ p = P i
  | 0, z => by cases z
  | n + 1, z => by
    rw [hol] at z
    by_cases q : T n = t ∧ K n ≤ hr
    · rw [if_pos q] at z
      by_cases y : B n = true
      · rw [if_pos y] at z
        injection z with z
        exact ⟨n, by omega, z.symm⟩
      · rw [if_neg y] at z
        cases z
    · rw [if_neg q] at z
      obtain ⟨i, hi, e⟩ := hol_in n z
      exact ⟨i, by omega, e⟩
section
variable {X : av_X} {d : Nat} {h : av_H}
theorem why_ok (w : WF h) (J : J_tow h) (Jw : J_wi h) (Jf : J_fi h) (Jl : J_lv h) (Jk : J_ke h) (Jn : J_ne h) (Jr : J_ru h) (Je : J_el h) (Jd : J_dr h) (Dp : J_dp h) (t s x e k a b : Int32) : ∃ v h1 h2, ev X (d + 7) 139 [vr (some 0), vi t, vi s, vi x, vi e, vi k, vi a, vi b] h = av_rI v h1 ∧ ev X (d + 7) 298 [vr (some 137), vi t, vi s, vi x, vi e, vi k, vi a, vi b] h1 = av_rI v h2 ∧ WF h2 ∧ J_dp h2 ∧ off false ([64, 71, 76, 166, 167] ++ dCells) [(137, 0)] h h2 := by
  have Dp0 := Dp
  obtain ⟨m, D, M, Nn, B, Dc, Dr, Wd⟩ := Dp
  have h60 := B.1
  cases ok : (askB h t s x e k a b && dayB m D e) with
  | false =>
    refine ⟨-1, h, th h, ?_, ?_, w, Dp0.fr (agr.uI rfl agr.rfl), agr.uI rfl agr.rfl⟩
    · rw [e_139, b_139_0, is_0 w, ask_g w J.v B Dc, ok, if_neg (show ¬ false = true by decide), av_cI_r, Option.bind_some]
    · have wt : WF (th h) := w
      have e1 := s_areIn (X := X) (d := d + 2) (h := th h) wt J.R.th B (Dr.fr (agr.uI rfl agr.rfl)) t s x e k a b
      rw [show askB (th h) t s x e k a b = askB h t s x e k a b by rw [askB, askB, isStp_th], ok] at e1
      rw [e_298, b_298_0, pI_137 w, th_e, is_137 wt, e1, av_cI_r, Option.bind_some, if_pos (show bI false = 0 from rfl)]
  | true =>
    have ok' := ok
    rw [Bool.and_eq_true] at ok'
    obtain ⟨oA, oD⟩ := ok'
    have oA' := oA
    simp only [askB, Bool.and_eq_true] at oA'
    obtain ⟨q1, q2, q3, q4, q5⟩ := oA'
    have q0 : told h t = true := by simp only [isStp, Bool.and_eq_true] at q1; exact q1.1.1
    obtain ⟨t0, s, x, b1, b2, b3, rfl, rfl, rfl, C0, hx, C10, hC0⟩ := stp_ex J.R q1
    obtain ⟨t, tw, h6, et, hj, T⟩ := told_ex J q0
    obtain rfl : t0 = t := (nI_eq (by omega) (by omega)).mp et
    obtain ⟨F, C, W, L, V, p1, p2, p3, p4, p5, p6, p7, p8, p9, r1, r2, r3, r4, r5, r6, r7, r8, r9, r10⟩ := T.2.2.2.2.2.2.1
    obtain rfl : C0 = C := (nI_eq (by omega) (by omega)).mp (hC0.symm.trans r4)
    obtain ⟨e, he, rfl⟩ := rg_nI (b := 99) (by decide) q2
    obtain ⟨k, hk, rfl⟩ := rg_nI (b := 23) (by decide) q3
    obtain ⟨a, ha, rfl⟩ := rg_nI (b := 9) (by decide) q4
    obtain ⟨b, hb, rfl⟩ := rg_nI (b := 9) (by decide) q5
    rw [dayB, Bool.and_eq_true, decide_eq_true_eq, Bool.or_eq_true, decide_eq_true_eq, Bool.not_eq_true', decide_eq_false_iff_not] at oD
    obtain ⟨hm, oD⟩ := oD
    have de : ∀ i, i < m → D i 4 ≤ e := fun i hi => by
      have bl := (B.2.1 (m - 1) (by omega)).2.2.2.2.1
      have le : D (m - 1) 4 ≤ e := by
        rcases oD with z | z
        · omega
        · rcases Nat.lt_or_ge e (D (m - 1) 4) with y | y
          · exact absurd (nI_lt y (by omega)) z
          · exact y
      by_cases z : i = m - 1
      · rw [z]; exact le
      · exact Nat.le_trans (B.2.2 i (m - 1) (by omega) (by omega)) le
    obtain ⟨u, o, uC, uQ⟩ := Jr
    obtain ⟨ml, jl⟩ := Jl
    obtain ⟨mk, Tk, P, K, Bk, kE⟩ := Jk
    obtain ⟨mn, qn, Nb, Nc, Nq, Nd⟩ := Jn.E
    obtain ⟨eb, eb10, eb1, eb2⟩ := Je
    have Jf0 := Jf
    obtain ⟨nf, nf12, nf1, nf2, -⟩ := Jf
    obtain ⟨g1, g2, g3'⟩ := T.sht b2
    have hol_n : ∀ hr p, hol Tk P K Bk t0 hr mk = some p → p < 10 := fun hr p z => by
      obtain ⟨i, hi, ei⟩ := hol_in mk z
      rw [ei]
      exact (kE.1.2.2.1 i hi).2.1
    obtain ⟨h1, g3, Mm, ag, wr, pr, wa, T1, T3, eM, R, wr1, wr2, -, -, -, ec⟩ := c_ask31 (X := X) (d := d) w J.v o uC Jw Jf0 jl kE Nb Nc B Dc hm h6 hj T.v b2 hx (show e < 100 by omega) (show k < 24 by omega) (show a < 10 by omega) (show b < 10 by omega) r1 p1 p2 r3 C10 r5 p6 r7 p8 r9 p9 g2 eb1 eb10 rfl rfl (Jd a (by omega)).2 (Jd b (by omega)).2 nf1 nf12 hol_n de
    have A0 := T1.up hm
    have A1 : agr (FP false ([2, 10, 11, 12, 13, 14, 143, 144, 145, 146, 147, 148, 149, 150, 151, 152, 153, 154, 155, 156, 157, 158, 159, 160, 161, 162, 163, 164, 165, 200, 201, 202, 203, 204, 205, 206, 207, 208, 209] ++ rCells) [(9, 5), (137, 18), (137, 23), (137, 37), (137, 38), (137, 41), (137, 45), (137, 80), (137, 85)]) h (th h1) := agr.uI rfl (A0.fr (by decide +kernel))
    have wt : WF (th h1) := T1.1
    have J1 : R_tow (th h1) := (J.fr (A0.fr (by decide +kernel))).R.th
    have J3 : J_tow g3 := J.fr ((T3.up hm).fr (by decide +kernel))
    have hj3 : g3.2.2.2 1 t0 = some tw := (T3.2.R (fM_d (by decide) (by decide) (by decide) (by omega))).trans hj
    have Ta3 : twA g3 t0 tw := by
      rcases J3.1 t0 h6 with ⟨z, -⟩ | ⟨a', z, y⟩
      · rw [hj3] at z; cases z
      · rw [hj3] at z
        injection z with z
        rw [z]
        exact y
    have A3 := (T3.up hm).fr (q := false) (cs := [5, 6, 145]) (fs := []) (by decide +kernel)
    have Dd : neD g3 (th h1) mn := fun i hi => ⟨((A3.I rfl).trans (Nd i hi).1).trans (A1.I rfl).symm, ((A3.I rfl).trans (Nd i hi).2).trans (A1.I rfl).symm⟩
    have g145 : (th h1).2.1 145 = g3.2.1 145 := funext (fun j => (A1.I rfl).trans (A3.I rfl).symm)
    have hK : min W (C0 - x) ≤ 4 := by omega
    have eq := rch_eq (h := g3) (g := th h1) (m := mn) (q := qn) (F := F) (C := C0) (x := x) b2 hK (by omega) C10 p2 Ta3.v Dd g145 (nI e)
    rw [← eM] at eq
    have bM : Mm < 2 ^ 48 := by
      rw [eM]
      exact Nat.lt_of_lt_of_le (rp_lt (fun k => rcQ_lt p2) _) (Nat.pow_le_pow_right (by decide) (by omega))
    have bN : ro (roP (th h1) mn qn t0 s x (nI e)) (min W (C0 - x)) F < 2 ^ 48 := Nat.lt_of_lt_of_le (ro_lt hK F) (Nat.pow_le_pow_right (by decide) (by omega))
    have nb : ∀ c, c < 4 → ∀ f, f < 12 → (ro (roP (th h1) mn qn t0 s x (nI e)) (min W (C0 - x)) F).testBit (4 * f + c) = true → f < F ∧ x + c < 10 := fun c c4 f f12 z => by
      rw [ro_bit hK c4, Bool.and_eq_true, Bool.and_eq_true, decide_eq_true_eq, decide_eq_true_eq] at z
      omega
    have wv1 : ∀ k, wvN (th h1) s e k = wvN h s e k := fun k => wv_fr (A1.sub (by decide +kernel))
    obtain ⟨h2, T2, e2⟩ := s_whyNot (X := X) (d := d + 2) (h := th h1) wt o (uQ.fr (A1.sub (by decide +kernel))) (Jw.fr (A1.sub (by decide +kernel))) (lvJ.fr jl (A1.sub (by decide +kernel))) (kE.1.fr (A1.sub (by decide +kernel))) Nb (show neQ (th h1) mn qn from ⟨(A1.I rfl).trans Nq.1, fun i hi => (A1.I rfl).trans (Nq.2 i hi)⟩) B (Dr.fr (A1.sub (by decide +kernel))) ((A1.I rfl).trans nf2) nf12 h6 b2 hx C10 p6 p1 p2 (show e < 100 by omega) (show k < 24 by omega) (show a < 10 by omega) (show b < 10 by omega) rfl hol_n ((A1.I rfl).trans r2) ((A1.I rfl).trans r4) ((A1.I rfl).trans r6) ((A1.I rfl).trans r8) ((A1.I rfl).trans r10) p8 p9 ((A1.I rfl).trans (g3' x (by omega))) ((A1.I rfl).trans (eb2 a (by omega))) ((A1.I rfl).trans (eb2 b (by omega))) ((A1.I rfl).trans (Jd a (by omega)).1) ((A1.I rfl).trans (Jd b (by omega)).1) (Jd a (by omega)).2 (Jd b (by omega)).2 rfl bN bM nb (fun f hf c hc => (A1.I rfl).trans (Wd.1 t0 h6 s b2 f hf c hc)) de eq R wr1.1 (by rw [wv1]; exact wr2)
    have q2' : decide (ro (roP (th h1) mn qn t0 s x (nI e)) (min W (C0 - x)) F = 0) = decide (bct Mm = 0) := decide_eq_decide.mpr (bct_0 bM bN eq).symm
    have q8 : anyN ((F + u.r - 1) / u.r) k (fun k => !lvB (th h1) ml (nI t0) (nI e) (nI k)) = anyN ((F + u.r - 1) / u.r) k (fun k => !lvB h ml (nI t0) (nI e) (nI k)) := anyN_cg _ _ (fun k _ _ => congrArg (fun b => !b) (lvB_fr (A1.sub (by decide +kernel))))
    have q13 : anyN nf 0 (flP (th h1) t0 s e k ((F + u.r - 1) / u.r)) = anyN nf 0 (flP h t0 s e k ((F + u.r - 1) / u.r)) := anyN_cg _ _ (fun i _ _ => flP_fr (A1.sub (by decide +kernel)))
    rw [q2', q8, q13] at e2
    simp only [wv1] at e2
    have e1 := s_areIn (X := X) (d := d + 2) (h := th h1) wt J1 B (Dr.fr (A1.sub (by decide +kernel))) (nI t0) (nI s) (nI x) (nI e) (nI k) (nI a) (nI b)
    rw [show askB (th h1) (nI t0) (nI s) (nI x) (nI e) (nI k) (nI a) (nI b) = askB h (nI t0) (nI s) (nI x) (nI e) (nI k) (nI a) (nI b) by simp only [askB, isStp, told, A1.I (show FP false ([2, 10, 11, 12, 13, 14, 143, 144, 145, 146, 147, 148, 149, 150, 151, 152, 153, 154, 155, 156, 157, 158, 159, 160, 161, 162, 163, 164, 165, 200, 201, 202, 203, 204, 205, 206, 207, 208, 209] ++ rCells) [(9, 5), (137, 18), (137, 23), (137, 37), (137, 38), (137, 41), (137, 45), (137, 80), (137, 85)] 143 _ = true from rfl), A1.I (show FP false ([2, 10, 11, 12, 13, 14, 143, 144, 145, 146, 147, 148, 149, 150, 151, 152, 153, 154, 155, 156, 157, 158, 159, 160, 161, 162, 163, 164, 165, 200, 201, 202, 203, 204, 205, 206, 207, 208, 209] ++ rCells) [(9, 5), (137, 18), (137, 23), (137, 37), (137, 38), (137, 41), (137, 45), (137, 80), (137, 85)] 144 _ = true from rfl)], ok] at e1
    have D1 : J_dp h2 := ⟨m, D, M, Nn, B, ((Dc.ta hm T1).fr h60 (agr.uI rfl agr.rfl : agr (FP false dCells [(0, 17)]) h1 (th h1))).fr h60 (T2.2.fr (by decide +kernel)), (Dr.fr (A1.sub (by decide +kernel))).fr (T2.2.fr (by decide +kernel)), (Wd.fr (A1.sub (by decide +kernel))).fr (T2.2.fr (by decide +kernel))⟩
    have cR : ∀ v, ev X (d + 2 + 4) 297 [vr (some 137), vi (nI t0), vi (nI s), vi (nI x), vi (nI e), vi (nI k), vi (nI a), vi (nI b)] (th h1) = av_rI v h2 → ev X (d + 7) 298 [vr (some 137), vi (nI t0), vi (nI s), vi (nI x), vi (nI e), vi (nI k), vi (nI a), vi (nI b)] h1 = av_rI v h2 := fun v e2 => by
      rw [e_298, b_298_0, pI_137 T1.1, th_e, is_137 wt, e1, av_cI_r, Option.bind_some, if_neg (show ¬ bI true = 0 by decide), is_137 wt, e2, av_cI_r, Option.bind_some]
    have cC : ∀ v, bd X (d + 5) 203 31 [(0, vr (some 0)), (1, vi (nI t0)), (2, vi (nI s)), (3, vi (nI x)), (4, vi (nI e)), (5, vi (nI k)), (6, vi (nI a)), (7, vi (nI b))] [] h = av_rI v h1 → ev X (d + 7) 139 [vr (some 0), vi (nI t0), vi (nI s), vi (nI x), vi (nI e), vi (nI k), vi (nI a), vi (nI b)] h = av_rI v h1 := fun v ec => by
      rw [e_139, b_139_0, is_0 w, ask_g w J.v B Dc, ok, if_pos rfl, ec, av_cI_r, Option.bind_some]
    exact ⟨_, h1, h2, cC _ ec, cR _ e2, T2.1, D1, agr.tr (agr.uI rfl (A0.up (by decide +kernel))) (T2.2.up (by decide +kernel))⟩
end
