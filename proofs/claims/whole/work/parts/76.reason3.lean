/-! reason, asked -/
def rsV (bl lt cv a8 a9 : Bool) : Int32 := if bl = true then 1 else if lt = false then 0 else if cv = false then 2 else if a8 = false then 3 else if a9 = false then 4 else 5
theorem nsB_fr {h h' : av_H} (A : agr (FP false [152, 153] []) h h') {m : Nat} {q : Nat → Nat} {P e : Nat} : nsB h' m q P e = nsB h m q P e := by
  refine anyN_cg _ _ (fun i _ _ => ?_)
  rw [neP, neP, A.I (show FP false [152, 153] [] 152 i = true from rfl), A.I (show FP false [152, 153] [] 153 i = true from rfl)]
theorem lvB_fr {h h' : av_H} (A : agr (FP false [155, 156, 157, 158] []) h h') {m : Nat} {t e k : Int32} : lvB h' m t e k = lvB h m t e k := by
  refine anyN_cg _ _ (fun i _ _ => ?_)
  rw [lvP, lvP, A.I rfl, A.I rfl, A.I rfl, A.I rfl]
theorem whB_fr {h h' : av_H} (A : agr (FP false [154, 155, 156, 157, 158] []) h h') {u : Ru} {m t s F e V k : Nat} : whB h' u m t s F e V k = whB h u m t s F e V k := by
  rw [whB, whB, lvB_fr (A.sub (by decide)), wv_fr (A.sub (by decide))]
theorem wkB_fr {h h' : av_H} (A : agr (FP false [152, 153, 154, 155, 156, 157, 158] []) h h') {m : Nat} {q : Nat → Nat} {P : Nat} {u : Ru} {ml t s F V e : Nat} : wkB h' m q P u ml t s F V e = wkB h m q P u ml t s F V e := by
  rw [wkB, wkB, nsB_fr (A.sub (by decide))]
  congr 1
  exact anyN_cg _ _ (fun k _ _ => whB_fr (A.sub (by decide)))
def okRs (h : av_H) (t s f c e p : Int32) : Bool := isPan h t s f c && rg e 0 99 && rg p 1 99
section
variable {X : av_X} {d : Nat} {h : av_H}
theorem reason_ok (w : WF h) (J : J_tow h) (Jw : J_wi h) (Jl : J_lv h) (Jn : J_ne h) (Jr : J_ru h) (Dp : J_dp h) (t s f c e p : Int32) : ∃ v h1 h2, ev X (d + 6) 146 [vr (some 0), vi t, vi s, vi f, vi c, vi e, vi p] h = av_rI v h1 ∧ ev X (d + 6) 313 [vr (some 137), vi t, vi s, vi f, vi c, vi e, vi p] h1 = av_rI v h2 ∧ WF h2 ∧ off false [64, 71, 76, 166, 167] [(137, 0)] h h2 := by
  cases ok : okRs h t s f c e p with
  | false =>
    have J2 := J.R.th
    refine ⟨-1, h, th h, ?_, ?_, w, agr.uI rfl agr.rfl⟩
    · rw [e_146, b_146_0, is_0 w, c_isPane' w J]
      cases q1 : isPan h t s f c with
      | false => rw [if_pos (show bI false = 0 from rfl)]
      | true =>
        rw [if_neg (show ¬ bI true = 0 by decide), c_isDay']
        cases q2 : rg e 0 99 with
        | false => rw [if_pos (show bI false = 0 from rfl)]
        | true =>
          rw [if_neg (show ¬ bI true = 0 by decide), c_within', tI_1, tI_99]
          cases q3 : rg p 1 99 with
          | false => rw [if_pos (show bI false = 0 from rfl)]
          | true => rw [okRs, q1, q2, q3] at ok; cases ok
    · have wt : WF (th h) := w
      rw [e_313, b_313_0, pI_137 w, th_e, is_137 wt, s_isPane' wt J2, isPan_th]
      cases q1 : isPan h t s f c with
      | false => rw [if_pos (show bI false = 0 from rfl)]
      | true =>
        rw [if_neg (show ¬ bI true = 0 by decide), s_isDay']
        cases q2 : rg e 0 99 with
        | false => rw [if_pos (show bI false = 0 from rfl)]
        | true =>
          rw [if_neg (show ¬ bI true = 0 by decide), s_isPromise']
          cases q3 : rg p 1 99 with
          | false => rw [if_pos (show bI false = 0 from rfl)]
          | true => rw [okRs, q1, q2, q3] at ok; cases ok
  | true =>
    obtain ⟨⟨q1, q2⟩, q3⟩ : (isPan h t s f c = true ∧ rg e 0 99 = true) ∧ rg p 1 99 = true := by simpa only [okRs, Bool.and_eq_true] using ok
    obtain ⟨t, s, f, c, h6, hs, hf, hc, rfl, rfl, rfl, rfl⟩ := pan_ex J q1
    obtain ⟨e, he, rfl⟩ := rg_nI (b := 99) (by decide) q2
    obtain ⟨p, hp1, hp, rfl⟩ := rg_nI1 (b := 99) (by decide) q3
    have q1' := q1
    simp only [isPan, Bool.and_eq_true] at q1'
    obtain ⟨⟨⟨y1, -⟩, y3⟩, y4⟩ := q1'
    obtain ⟨t', a, h6', et, hj, T⟩ := told_ex J y1
    obtain rfl : t = t' := (nI_eq (by omega) (by omega)).mp et
    obtain ⟨F, C, W, L, V, p1, p2, p3, p4, p5, p6, p7, p8, p9, r1, r2, r3, r4, r5, r6, r7, r8, r9, r10⟩ := T.2.2.2.2.2.2.1
    have fF : f < F := by
      rw [nI_clamp (by omega), r2, toI_nI (by omega), rg, toI_nI (by omega), decide_eq_true_eq] at y3
      omega
    have cC : c < C := by
      rw [nI_clamp (by omega), r4, toI_nI (by omega), rg, toI_nI (by omega), decide_eq_true_eq] at y4
      omega
    obtain ⟨b1, b2, b3⟩ := T.blk hs hc
    obtain ⟨g1, g2, g3⟩ := T.sht hs
    obtain ⟨b0, k1, k2, k3, rr5, rr6, -⟩ := T
    obtain ⟨u, o, cc, q⟩ := Jr
    obtain ⟨ml, jl⟩ := Jl
    obtain ⟨mn, qn, Nb, Nc, Nq, Nd⟩ := Jn.E
    obtain ⟨m, D, M, N, B, Dc, Dr, Wd⟩ := Dp
    have Tc : tC h h := ⟨w, agr.rfl⟩
    have W0 : tw0 h t a F V := ⟨h6, b0, hj, k1, r1, r9⟩
    have P : ((4 * t + s) * 12 + f) * 10 + c < 2880 := by omega
    have hl := lfM_lt (D := D) (M := M) (b := blkN h a s c) (t := t) (s := s) (c := c) (x := nI (e + 1 - p)) (y := nI e) p2 m
    have hfr := frM_lt (b := blkN h a s c) p2
    have hos := frC_lt (b := shtN h a s) p4
    have hrc : rcM (frM C (shtN h a s)) W &&& (2 ^ C - 1) < 2 ^ 13 := Nat.lt_of_le_of_lt Nat.and_le_left (rcM_lt hos W p6)
    have lte : ltB D M F (blkN h a s c) t s f c (nI (e + 1 - p)) (nI e) m = ltB D M F (blkN h a s c) t s f c (nI e - nI p + 1) (nI e) m := ltB_x m (fun i hi => fst_rg (by omega) (by omega) (B.2.1 i hi).2.2.2.2.1)
    have cls : ∃ h1, tC h h1 ∧ ev X (d + 6) 146 [vr (some 0), vi (nI t), vi (nI s), vi (nI f), vi (nI c), vi (nI e), vi (nI p)] h = av_rI (rsV ((blkN h a s c).testBit f) (ltB D M F (blkN h a s c) t s f c (nI e - nI p + 1) (nI e) m) (cvB (shtN h a s) W c) (anyN (e + 1 - (e + 1 - p)) (e + 1 - p) (fun e => !nsB h mn qn (((4 * t + s) * 12 + f) * 10 + c) e)) (anyN (e + 1 - (e + 1 - p)) (e + 1 - p) (wkB h mn qn (((4 * t + s) * 12 + f) * 10 + c) u ml t s F V))) h1 := by
      obtain ⟨h1, T1, e1⟩ := wk_lp (X := X) (d := d) o cc Jw jl Nb Nc Nd (f := f) (c := c) W0 hs hf hc (show e < 100 by omega) (e + 1 - (e + 1 - p)) (e + 1 - p) h (by omega) Tc
      rw [e_146, b_146_0, is_0 w, c_isPane' w J, q1, if_neg (show ¬ bI true = 0 by decide), c_isDay', q2, if_neg (show ¬ bI true = 0 by decide), c_within', tI_1, tI_99, q3, if_neg (show ¬ bI true = 0 by decide), gR_0_0 w, ld1v w h6 hj, c_max', fst_e (by omega) (by omega), tw_is k1, c_freeF' k1 k2 rr5 hs hc b2 r1 p2, c_hasBit' (by omega) (by omega), frM_bit, decide_eq_true fF, Bool.true_and, rsV]
      cases z1 : (blkN h a s c).testBit f with
      | true =>
        refine ⟨h, Tc, ?_⟩
        rw [Bool.not_true, if_pos (show bI false = 0 from rfl), if_pos rfl]
      | false =>
        rw [Bool.not_false, if_neg (show ¬ bI true = 0 by decide), if_neg (show ¬ false = true by decide), is_0 w]
        dsimp only
        rw [c_lateF' w B Dc h6 hs hc hj k1 k2 rr5 b2 r1 p2, c_hasBit' (by omega) (by omega), lfM_bit hf, lte]
        cases z2 : ltB D M F (blkN h a s c) t s f c (nI e - nI p + 1) (nI e) m with
        | false =>
          refine ⟨h, Tc, ?_⟩
          rw [if_pos (show bI false = 0 from rfl), if_pos rfl]
        | true =>
          rw [if_neg (show ¬ bI true = 0 by decide), if_neg (show ¬ true = false by decide), tw_is k1, c_openS' k1 k3 rr6 hs g2 r3 p4, tw_is k1, c_reC' k1 r5 p6 r3 p4 hos, c_hasBit' (by omega) (by omega), cv_eq cC]
          cases z3 : cvB (shtN h a s) W c with
          | false =>
            refine ⟨h, Tc, ?_⟩
            rw [if_pos (show bI false = 0 from rfl), if_pos rfl]
          | true =>
            rw [if_neg (show ¬ bI true = 0 by decide), if_neg (show ¬ true = false by decide), c_paneP', is_0 w, e_222, b_222_0, nt_lp (d := d + 1) Tc Nb Nc Nd (e := e) h6 hs hf hc (by omega) (e + 1 - (e + 1 - p)) (e + 1 - p) (by omega), av_cI_r, Option.bind_some]
            cases z4 : anyN (e + 1 - (e + 1 - p)) (e + 1 - p) (fun e => !nsB h mn qn (((4 * t + s) * 12 + f) * 10 + c) e) with
            | false =>
              refine ⟨h, Tc, ?_⟩
              rw [Bool.not_false, if_neg (show ¬ bI true = 0 by decide), if_pos rfl]
            | true =>
              refine ⟨h1, T1, ?_⟩
              rw [Bool.not_true, if_pos (show bI false = 0 from rfl), is_0 w, e_223, b_223_0, if_neg (by decide), lit_120, pk_div (by omega) (by omega) (by omega), show (((t * 4 + s) * 10 + c) * 12 + f) / 120 = t * 4 + s by omega, e1, av_cI_r, Option.bind_some, if_neg (show ¬ true = false by decide)]
              cases anyN (e + 1 - (e + 1 - p)) (e + 1 - p) (wkB h mn qn (((4 * t + s) * 12 + f) * 10 + c) u ml t s F V) with
              | false => rw [if_pos (show bI false = 0 from rfl), if_pos rfl]
              | true => rw [if_neg (show ¬ bI true = 0 by decide), if_neg (show ¬ true = false by decide)]
    obtain ⟨h1, T1, e1⟩ := cls
    have A : agr (FP false ([2, 9, 10, 11, 12, 13, 14, 143, 144, 145, 146, 147, 148, 150, 151, 152, 153, 154, 155, 156, 157, 158, 161, 162, 163, 164, 165] ++ rCells) [(137, 18), (137, 23), (137, 45), (137, 37), (137, 38), (137, 41)]) h (th h1) := agr.uI rfl (T1.2.fr (by decide +kernel))
    have wt : WF (th h1) := T1.1
    have Tq : tQ (th h1) (th h1) := ⟨wt, agr.rfl⟩
    have J2 : R_tow (th h1) := (J.fr (T1.2.fr (by decide))).R.th
    have EE : EN h (th h1) m D M N := ⟨w, wt, B, Dc, Dr.fr (A.sub (by decide +kernel))⟩
    have qp : isPan (th h1) (nI t) (nI s) (nI f) (nI c) = true := by
      rw [isPan_eq2 (fun k => A.I rfl) (fun k => A.I rfl)]
      exact q1
    have hb : (th h1).2.1 145 (((4 * t + s) * 12 + f) * 10 + c) = bI ((blkN h a s c).testBit f) := (A.I rfl).trans (b3 f hf)
    have sL := s_isL (X := X) (d := d + 3) EE h6 hs hf hc fF (nI e) (nI p) hb
    obtain ⟨h2, T2, e2⟩ := wk_s (X := X) (d := d) o (q.fr (A.sub (by decide +kernel))) (Jw.fr (A.sub (by decide +kernel))) (lvJ.fr jl (A.sub (by decide +kernel))) Nb (show neQ (th h1) mn qn from ⟨(A.I rfl).trans Nq.1, fun i hi => (A.I rfl).trans (Nq.2 i hi)⟩) h6 hs P (show e < 100 by omega) ((A.I rfl).trans r2) ((A.I rfl).trans r10) (e + 1 - (e + 1 - p)) (e + 1 - p) (th h1) false false (by omega) Tq
    rw [Bool.false_or, Bool.false_or, anyN_cg (P := fun e => !nsB (th h1) mn qn (((4 * t + s) * 12 + f) * 10 + c) e) _ _ (fun k _ _ => congrArg (fun b => !b) (nsB_fr (A.sub (by decide +kernel)))), anyN_cg _ _ (fun k _ _ => wkB_fr (A.sub (by decide +kernel)))] at e2
    have fin : ∀ (v : Int32) g, tQ (th h1) g → ev X (d + 6) 313 [vr (some 137), vi (nI t), vi (nI s), vi (nI f), vi (nI c), vi (nI e), vi (nI p)] h1 = av_rI v g → ev X (d + 6) 146 [vr (some 0), vi (nI t), vi (nI s), vi (nI f), vi (nI c), vi (nI e), vi (nI p)] h = av_rI v h1 → ∃ v h1 h2, ev X (d + 6) 146 [vr (some 0), vi (nI t), vi (nI s), vi (nI f), vi (nI c), vi (nI e), vi (nI p)] h = av_rI v h1 ∧ ev X (d + 6) 313 [vr (some 137), vi (nI t), vi (nI s), vi (nI f), vi (nI c), vi (nI e), vi (nI p)] h1 = av_rI v h2 ∧ WF h2 ∧ off false [64, 71, 76, 166, 167] [(137, 0)] h h2 := fun v g Tg eg ec => ⟨v, h1, g, ec, eg, Tg.1, agr.tr (agr.uI rfl (T1.2.up (by decide))) (Tg.2.up (by decide))⟩
    have beg : ev X (d + 6) 313 [vr (some 137), vi (nI t), vi (nI s), vi (nI f), vi (nI c), vi (nI e), vi (nI p)] h1 = if (blkN h a s c).testBit f = true then av_rI 1 (th h1) else if ltB D M F (blkN h a s c) t s f c (nI e - nI p + 1) (nI e) m = false then av_rI 0 (th h1) else if cvB (shtN h a s) W c = false then av_rI 2 (th h1) else bd X (d + 5) 313 68 [(0, vr (some 137)), (1, vi (nI t)), (2, vi (nI s)), (5, vi (nI e)), (7, vi (nI (((4 * t + s) * 12 + f) * 10 + c))), (8, vi 0), (9, vi 0), (10, vi (nI (e + 1 - p)))] [] (th h1) := by
      rw [e_313, b_313_0, pI_137 T1.1, th_e, is_137 wt, s_isPane' wt J2, qp, if_neg (show ¬ bI true = 0 by decide), s_isDay', q2, if_neg (show ¬ bI true = 0 by decide), s_isPromise', q3, if_neg (show ¬ bI true = 0 by decide), s_paneOf', gR_137_12 wt, ld_145 wt P, hb]
      cases z1 : (blkN h a s c).testBit f with
      | true => rw [if_neg (show ¬ bI true = 0 by decide), if_pos rfl]
      | false =>
        rw [if_pos (show bI false = 0 from rfl), if_neg (show ¬ false = true by decide), is_137 wt, sL, av_cI_r, Option.bind_some]
        cases z2 : ltB D M F (blkN h a s c) t s f c (nI e - nI p + 1) (nI e) m with
        | false => rw [if_pos (show bI false = 0 from rfl), if_pos rfl]
        | true =>
          rw [if_neg (show ¬ bI true = 0 by decide), if_neg (show ¬ true = false by decide), is_137 wt, s_cov' wt h6 hs hc ((A.I rfl).trans r6) p6 (fun x hx => (A.I rfl).trans (g3 x hx))]
          cases z3 : cvB (shtN h a s) W c with
          | false => rw [if_pos (show bI false = 0 from rfl), if_pos rfl]
          | true =>
            rw [if_neg (show ¬ bI true = 0 by decide), if_neg (show ¬ true = false by decide), ← fst_r (e := e) (p := p) (by omega) (by omega)]
            split <;> rfl
    rw [rsV] at e1
    by_cases z1 : (blkN h a s c).testBit f = true
    · rw [if_pos z1] at beg e1
      exact fin _ _ Tq beg e1
    · rw [if_neg z1] at beg e1
      by_cases z2 : ltB D M F (blkN h a s c) t s f c (nI e - nI p + 1) (nI e) m = false
      · rw [if_pos z2] at beg e1
        exact fin _ _ Tq beg e1
      · rw [if_neg z2] at beg e1
        by_cases z3 : cvB (shtN h a s) W c = false
        · rw [if_pos z3] at beg e1
          exact fin _ _ Tq beg e1
        · rw [if_neg z3] at beg e1
          exact fin _ _ T2 (beg.trans e2) e1
end
