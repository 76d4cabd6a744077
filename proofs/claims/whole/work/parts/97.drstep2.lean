/-! a drop asked for and kept: the step -/
theorem whV_p (b1 b2 b3 b4 b5 b6 b7 b8 b9 b10 b11 b12 b13 : Bool) : whV b1 b2 b3 b4 b5 b6 b7 b8 (wh9 b9 b10 b11 b12 b13) = 0 ∨ 0 < whV b1 b2 b3 b4 b5 b6 b7 b8 (wh9 b9 b10 b11 b12 b13) := by
  unfold whV wh9
  repeat' split
  all_goals decide
theorem fW_of {m a k : Nat} (e : (!FP false ([146, 150, 166, 167] ++ rCells) [(137, 0), (137, 45)] a k) = true) : fW m a k = true := by
  rw [Bool.not_eq_true'] at e
  simp only [FP, Bool.false_and, Bool.false_or, Bool.or_eq_false_iff, List.elem_eq_mem, decide_eq_false_iff_not, List.mem_append, List.mem_cons, not_or, rCells, List.not_mem_nil, not_false_eq_true, and_true, Prod.mk.injEq, not_and] at e
  simp only [fW, Bool.not_eq_true', Bool.or_eq_false_iff, Bool.and_eq_false_iff, decide_eq_false_iff_not]
  omega
theorem fW_i {m i a : Nat} (h1 : 168 ≤ a) (h2 : a ≤ 185) (q : i ≠ m) : fW m a i = true := by
  simp only [fW, Bool.not_eq_true', Bool.or_eq_false_iff, Bool.and_eq_false_iff, decide_eq_false_iff_not]
  omega
theorem fT_4 {h0 : av_H} {t a : Nat} (ht : t < 6) (e : h0.2.2.2 1 t = some a) : fT h0 a 4 = false := by
  rw [fT, tws_t ht e, decide_eq_true rfl, Bool.true_and, Bool.or_true]
  rfl
theorem fT_17 {h0 : av_H} : fT h0 0 17 = false := by
  rw [fT, show FP false ([64, 71, 76] ++ dCells) [(0, 17)] 0 17 = true from rfl, Bool.true_or]
  rfl
section
variable {X : av_X} {d dc : Nat}
theorem dr_step {h0 hc : av_H} (J : J_tow h0) (Jw : J_wi h0) (Jf : J_fi h0) (Jl : J_lv h0) (Jk : J_ke h0) (Jn : J_ne h0) (Jr : J_ru h0) (Je : J_el h0) (Jd : J_dr h0) {m : Nat} {D : Nat → Nat → Nat} {M N V : Nat → Nat} (B : DB m D M N) (V9 : ∀ t, V t ≤ 9999) (Sc : SC h0 hc m D M V) (t s x e k a b : Int32) : ∃ v hc', ev X (dc + 6) 203 [vr (some 0), vi t, vi s, vi x, vi e, vi k, vi a, vi b] hc = av_rI v hc' ∧ SC h0 hc' m D M V ∧ off false ([64, 71, 76] ++ dCells) [] hc hc' ∧
    (∀ hr, SR h0 hr m D M N V → ∃ hr', ev X (d + 7) 298 [vr (some 137), vi t, vi s, vi x, vi e, vi k, vi a, vi b] hr = av_rI v hr' ∧ SR h0 hr' m D M N V ∧ off false [166, 167] [(137, 0)] hr hr' ∧ hr'.2.1 137 0 = 0) ∧
    (v ≠ 0 → ∀ hr, SR h0 hr m D M N V → ∃ hr', ev X (d + 7) 299 [vr (some 137), vi t, vi s, vi x, vi e, vi k, vi a, vi b] hr = av_rI (-1) hr' ∧ SR h0 hr' m D M N V ∧ off false [166, 167] [(137, 0)] hr hr' ∧ hr'.2.1 137 0 = 0) ∧
    (v = 0 → ∃ hc'' D' M' N' V', ev X (dc + 6) 216 [vr (some 0)] hc' = av_rI (nI m) hc'' ∧ m < 60 ∧ DB (m + 1) D' M' N' ∧ (∀ t, V' t ≤ 9999) ∧ SC h0 hc'' (m + 1) D' M' V' ∧ (∀ i, i < m → D' i = D i ∧ M' i = M i ∧ N' i = N i) ∧ (∀ t, h0.2.2.2 1 t = none → V' t = V t) ∧ off true ([64, 71, 76] ++ dCells) [(0, 17)] hc' hc'' ∧
      ∀ hr, SR h0 hr m D M N V → ∃ hr', ev X (d + 7) 299 [vr (some 137), vi t, vi s, vi x, vi e, vi k, vi a, vi b] hr = av_rI (nI m) hr' ∧ SR h0 hr' (m + 1) D' M' N' V' ∧ off false ([146, 150, 166, 167] ++ rCells) [(137, 0), (137, 45)] hr hr' ∧ hr'.2.1 137 0 = 0) := by
  have h60 := B.1
  obtain ⟨Jv, Tc, Kc⟩ := Sc.tv J V9
  obtain ⟨w, Ac, Dc, Vc⟩ := Sc
  have up : ∀ {cs : List Nat} {fs : List (Nat × Nat)}, fpD false cs fs false ([64, 71, 76] ++ dCells) [(0, 17)] = true → cs.all (fun a => decide (a < 226)) = true → fs.all (fun z => decide (z.1 < 226)) = true → agr (FP false cs fs) h0 hc := fun D c1 c2 => agr.mono Ac (fT_up J D c1 c2)
  have a0 : askB hc t s x e k a b = askB h0 t s x e k a b := by
    have A := up (cs := [143, 144]) (fs := []) (by decide +kernel) (by decide) (by decide)
    simp only [askB, isStp, told, A.I (show FP false [143, 144] [] 143 _ = true from rfl), A.I (show FP false [143, 144] [] 144 _ = true from rfl)]
  have aR : ∀ hr, SR h0 hr m D M N V → ev X (d + 6) 296 [vr (some 137), vi t, vi s, vi x, vi e, vi k, vi a, vi b] (th hr) = av_rI (bI (askB h0 t s x e k a b && dayB m D e)) (th hr) := fun hr S => by
    have S' := S.th
    have e1 := s_areIn (X := X) (d := d + 2) (h := th hr) S'.1 (J.R.fr (S'.2.1.sub (by decide +kernel))) B S'.2.2.1 t s x e k a b
    have A := S'.2.1.sub (q := false) (cs := [143, 144]) (fs := []) (by decide +kernel)
    rw [show askB (th hr) t s x e k a b = askB h0 t s x e k a b by simp only [askB, isStp, told, A.I (show FP false [143, 144] [] 143 _ = true from rfl), A.I (show FP false [143, 144] [] 144 _ = true from rfl)]] at e1
    exact e1
  cases ok : (askB h0 t s x e k a b && dayB m D e) with
  | false =>
    refine ⟨-1, hc, ?_, ⟨w, Ac, Dc, Vc⟩, agr.rfl, fun hr S => ⟨th hr, ?_, S.th, agr.uI rfl agr.rfl, uI_eq⟩, fun _ hr S => ⟨th hr, ?_, S.th, agr.uI rfl agr.rfl, uI_eq⟩, fun z => absurd z (by decide)⟩
    · rw [ask_g w Jv B Dc, a0, ok, if_neg (show ¬ false = true by decide)]
    · have e1 := aR hr S
      rw [ok] at e1
      rw [e_298, b_298_0, pI_137 S.1, th_e, is_137 S.th.1, e1, av_cI_r, Option.bind_some, if_pos (show bI false = 0 from rfl)]
    · have e1 := aR hr S
      rw [ok] at e1
      rw [e_299, b_299_0, pI_137 S.1, th_e, is_137 S.th.1, e1, av_cI_r, Option.bind_some, if_pos (show bI false = 0 from rfl)]
  | true =>
    have ok' := ok
    rw [Bool.and_eq_true] at ok'
    obtain ⟨oA, oD⟩ := ok'
    have oA' := oA
    simp only [askB, Bool.and_eq_true] at oA'
    obtain ⟨q1, q2, q3, q4, q5⟩ := oA'
    have q0 : told h0 t = true := by simp only [isStp, Bool.and_eq_true] at q1; exact q1.1.1
    obtain ⟨t0, s, x, b1, b2, b3, rfl, rfl, rfl, C0, hx, C10, hC0⟩ := stp_ex J.R q1
    obtain ⟨t, tw, h6, et, hj, T⟩ := told_ex J q0
    obtain rfl : t0 = t := (nI_eq (by omega) (by omega)).mp et
    obtain ⟨F, C, W, L, V0, p1, p2, p3, p4, p5, p6, p7, p8, p9, r1, r2, r3, r4, r5, r6, r7, r8, r9, r10⟩ := T.2.2.2.2.2.2.1
    obtain rfl : C0 = C := (nI_eq (by omega) (by omega)).mp (hC0.symm.trans r4)
    obtain ⟨e, he, rfl⟩ := rg_nI (b := 99) (by decide) q2
    obtain ⟨k, hk, rfl⟩ := rg_nI (b := 23) (by decide) q3
    obtain ⟨a, ha, rfl⟩ := rg_nI (b := 9) (by decide) q4
    obtain ⟨b, hb, rfl⟩ := rg_nI (b := 9) (by decide) q5
    rw [dayB, Bool.and_eq_true, decide_eq_true_eq, Bool.or_eq_true, decide_eq_true_eq, Bool.not_eq_true', decide_eq_false_iff_not] at oD
    obtain ⟨hm, oD⟩ := oD
    have de : ∀ i, i < m → D i 4 ≤ e := fun i hi => by
      have bl := (B.2.1 (m - 1) (by omega)).2.2.2.2.1
      have le : D (m - 1) 4 ≤ e := by
        rcases oD with z | z
        · omega
        · rcases Nat.lt_or_ge e (D (m - 1) 4) with y | y
          · exact absurd (nI_lt y (by omega)) z
          · exact y
      by_cases z : i = m - 1
      · rw [z]; exact le
      · exact Nat.le_trans (B.2.2 i (m - 1) (by omega) (by omega)) le
    obtain ⟨u, o, uC, uQ⟩ := Jr
    have rr := o.2.2.2.1
    obtain ⟨ml, jl⟩ := Jl
    obtain ⟨mk, Tk, P, K, Bk, kE⟩ := Jk
    obtain ⟨mn, qn, Nb, Nc, Nq, Nd⟩ := Jn.E
    obtain ⟨eb, eb10, eb1, eb2⟩ := Je
    have Jf0 := Jf
    obtain ⟨nf, nf12, nf1, nf2, -⟩ := Jf
    have tv := Kc t0 tw h6 hj
    obtain ⟨g1, g2, g3'⟩ := tv.sht b2
    have S147 := up (cs := [147]) (fs := []) (by decide +kernel) (by decide) (by decide)
    have hol_n : ∀ hr p, hol Tk P K Bk t0 hr mk = some p → p < 10 := fun hr p z => by
      obtain ⟨i, hi, ei⟩ := hol_in mk z
      rw [ei]
      exact (kE.1.2.2.1 i hi).2.1
    have n0 : ∀ k, k ≠ 4 → hc.2.1 tw k = h0.2.1 tw k := fun k z => Ac.I (fT_t T.1 (Or.inr z))
    have Nc' : neC hc mn qn := by
      have A := up (cs := [3, 4, 7, 8]) (fs := []) (by decide +kernel) (by decide) (by decide)
      refine ⟨(A.I rfl).trans Nc.1, fun i hi => ?_⟩
      obtain ⟨z1, z2, z3⟩ := Nc.2 i hi
      exact ⟨(A.I rfl).trans z1, (A.I rfl).trans z2, (A.I rfl).trans z3⟩
    have A27 := up (cs := [27, 28]) (fs := [(15, 5)]) (by decide +kernel) (by decide) (by decide)
    have da := (Jd a (by omega)).2
    have db := (Jd b (by omega)).2
    rw [show h0.2.1 28 a = hc.2.1 28 a from (A27.I rfl).symm] at da
    rw [show h0.2.1 28 b = hc.2.1 28 b from (A27.I rfl).symm] at db
    obtain ⟨h1, g3, Mm, ag, wr, pr, wa, T1, T3, eM, R, wr1, wr2, pr2, wa2, dp, ec⟩ := c_ask31 (X := X) (d := dc) w Jv o (uC.fr o (up (by decide +kernel) (by decide) (by decide))) (Jw.fr (up (by decide +kernel) (by decide) (by decide))) (Jf0.fr (up (by decide +kernel) (by decide) (by decide))) (lvJ.fr jl (up (by decide +kernel) (by decide) (by decide))) (kE.fr (up (by decide +kernel) (by decide) (by decide))) Nb Nc' B Dc hm h6 ((Tc t0).trans hj) tv b2 hx (show e < 100 by omega) (show k < 24 by omega) (show a < 10 by omega) (show b < 10 by omega) ((n0 0 (by decide)).trans r1) p1 p2 ((n0 1 (by decide)).trans r3) C10 ((n0 2 (by decide)).trans r5) p6 ((n0 3 (by decide)).trans r7) p8 (Vc t0 tw h6 hj) (V9 t0) g2 ((A27.I rfl).trans eb1) eb10 rfl rfl da db ((A27.I rfl).trans nf1) nf12 hol_n de
    generalize hxa : hc.2.1 28 a = xa at dp ec da
    generalize hxb : hc.2.1 28 b = xb at dp ec db
    have hx8 : h0.2.1 160 a = xa := (Jd a (by omega)).1.trans ((A27.I rfl).symm.trans hxa)
    have hx9 : h0.2.1 160 b = xb := (Jd b (by omega)).1.trans ((A27.I rfl).symm.trans hxb)
    have J3 : J_tv g3 := Jv.fr ((T3.up hm).fr (by decide +kernel))
    have hj3 : g3.2.2.2 1 t0 = some tw := (T3.2.R (fM_d (by decide) (by decide) (by decide) (by omega))).trans ((Tc t0).trans hj)
    have Ta3 : twV g3 t0 tw := by
      rcases J3.1 t0 h6 with ⟨z, -⟩ | ⟨a', z, y⟩
      · rw [hj3] at z; cases z
      · rw [hj3] at z
        injection z with z
        rw [z]
        exact y
    have A3 : agr (FP false [5, 6, 145] []) h0 g3 := agr.tr (up (by decide +kernel) (by decide) (by decide)) ((T3.up hm).fr (by decide +kernel))
    have Dd : neD g3 h0 mn := fun i hi => ⟨(A3.I rfl).trans (Nd i hi).1, (A3.I rfl).trans (Nd i hi).2⟩
    have g145 : h0.2.1 145 = g3.2.1 145 := funext (fun j => (A3.I rfl).symm)
    have hK : min W (C0 - x) ≤ 4 := by omega
    have eq := rch_eq (h := g3) (g := h0) (m := mn) (q := qn) (F := F) (C := C0) (x := x) b2 hK (by omega) C10 p2 Ta3 Dd g145 (nI e)
    rw [← eM] at eq
    have bM : Mm < 2 ^ 48 := by
      rw [eM]
      exact Nat.lt_of_lt_of_le (rp_lt (fun k => rcQ_lt p2) _) (Nat.pow_le_pow_right (by decide) (by omega))
    have bN : ro (roP h0 mn qn t0 s x (nI e)) (min W (C0 - x)) F < 2 ^ 48 := Nat.lt_of_lt_of_le (ro_lt hK F) (Nat.pow_le_pow_right (by decide) (by omega))
    have nb : ∀ c, c < 4 → ∀ f, f < 12 → (ro (roP h0 mn qn t0 s x (nI e)) (min W (C0 - x)) F).testBit (4 * f + c) = true → f < F ∧ x + c < 10 := fun c c4 f f12 z => by
      rw [ro_bit hK c4, Bool.and_eq_true, Bool.and_eq_true, decide_eq_true_eq, decide_eq_true_eq] at z
      omega
    have wvc : ∀ k, wvN hc s e k = wvN h0 s e k := fun k => wv_fr (up (by decide +kernel) (by decide) (by decide))
    have q2' : decide (ro (roP h0 mn qn t0 s x (nI e)) (min W (C0 - x)) F = 0) = decide (bct Mm = 0) := decide_eq_decide.mpr (bct_0 bM bN eq).symm
    have q8c : anyN ((F + u.r - 1) / u.r) k (fun k => !lvB hc ml (nI t0) (nI e) (nI k)) = anyN ((F + u.r - 1) / u.r) k (fun k => !lvB h0 ml (nI t0) (nI e) (nI k)) := anyN_cg _ _ (fun k _ _ => congrArg (fun b => !b) (lvB_fr (up (by decide +kernel) (by decide) (by decide))))
    have q13c : anyN nf 0 (flP hc t0 s e k ((F + u.r - 1) / u.r)) = anyN nf 0 (flP h0 t0 s e k ((F + u.r - 1) / u.r)) := anyN_cg _ _ (fun i _ _ => flP_fr (up (by decide +kernel) (by decide) (by decide)))
    have esh : shtN hc tw s = shtN hc tw s := rfl
    rw [q8c, q13c] at ec
    simp only [wvc] at ec wr2 pr2 wa2
    generalize hNN : ro (roP h0 mn qn t0 s x (nI e)) (min W (C0 - x)) F = NN at eq bN nb q2'
    -- the reference's answer
    have key : ∀ g, SR h0 g m D M N V → ∃ g', tQ g g' ∧ ev X (d + 6) 297 [vr (some 137), vi (nI t0), vi (nI s), vi (nI x), vi (nI e), vi (nI k), vi (nI a), vi (nI b)] g = av_rI (whV ((shtN hc tw s).testBit x) (decide (bct Mm = 0)) (decide (a = b) || (!eb.testBit a && !eb.testBit b)) (decide (24 < k + (F + u.r - 1) / u.r)) (anyN m 0 (gaB D e k ((F + u.r - 1) / u.r) (nI a) (nI b))) (anyN m 0 (crB D e k ((F + u.r - 1) / u.r) t0)) (!drB xa e u.dd || !drB xb e u.dd) (anyN ((F + u.r - 1) / u.r) k (fun k => !lvB h0 ml (nI t0) (nI e) (nI k))) (wh9 (anyN ((F + u.r - 1) / u.r) k (fun k => u.st (fct t0 s F e k (wvN h0 s e k) (bct Mm) ((F + u.r - 1) / u.r) (V t0) ag))) (anyN ((F + u.r - 1) / u.r) k (fun k => u.qu (fct t0 s F e k (wvN h0 s e k) (bct Mm) ((F + u.r - 1) / u.r) (V t0) ag))) (decide (L < V t0 + wr)) (u.ky && anyN ((F + u.r - 1) / u.r) k (fun k => !kyB (nI a) (nI b) (hol Tk P K Bk t0 (e * 24 + k) mk))) (anyN nf 0 (flP h0 t0 s e k ((F + u.r - 1) / u.r))))) g' := fun g S => by
      obtain ⟨wg, A1, Dr, Wd, Vr⟩ := S
      have eN : NN = ro (roP g mn qn t0 s x (nI e)) (min W (C0 - x)) F := by rw [roP_fr (A1.sub (by decide +kernel)), hNN]
      have wv1 : ∀ k, wvN g s e k = wvN h0 s e k := fun k => wv_fr (A1.sub (by decide +kernel))
      obtain ⟨h2, T2, e2⟩ := s_whyNot (X := X) (d := d + 2) (h := g) wg o (uQ.fr (A1.sub (by decide +kernel))) (Jw.fr (A1.sub (by decide +kernel))) (lvJ.fr jl (A1.sub (by decide +kernel))) (kE.1.fr (A1.sub (by decide +kernel))) Nb (show neQ g mn qn from ⟨(A1.I rfl).trans Nq.1, fun i hi => (A1.I rfl).trans (Nq.2 i hi)⟩) B Dr ((A1.I rfl).trans nf2) nf12 h6 b2 hx C10 p6 p1 p2 (show e < 100 by omega) (show k < 24 by omega) (show a < 10 by omega) (show b < 10 by omega) rfl hol_n ((A1.I rfl).trans r2) ((A1.I rfl).trans r4) ((A1.I rfl).trans r6) ((A1.I rfl).trans r8) (Vr t0 h6) p8 (V9 t0) ((A1.I rfl).trans ((S147.I rfl).symm.trans (g3' x (by omega)))) ((A1.I rfl).trans (eb2 a (by omega))) ((A1.I rfl).trans (eb2 b (by omega))) ((A1.I rfl).trans hx8) ((A1.I rfl).trans hx9) da db eN bN bM nb (fun f hf c hc => Wd.1 t0 h6 s b2 f hf c hc) de eq R wr1.1 (by rw [wv1]; exact wr2)
      have q8 : anyN ((F + u.r - 1) / u.r) k (fun k => !lvB g ml (nI t0) (nI e) (nI k)) = anyN ((F + u.r - 1) / u.r) k (fun k => !lvB h0 ml (nI t0) (nI e) (nI k)) := anyN_cg _ _ (fun k _ _ => congrArg (fun b => !b) (lvB_fr (A1.sub (by decide +kernel))))
      have q13 : anyN nf 0 (flP g t0 s e k ((F + u.r - 1) / u.r)) = anyN nf 0 (flP h0 t0 s e k ((F + u.r - 1) / u.r)) := anyN_cg _ _ (fun i _ _ => flP_fr (A1.sub (by decide +kernel)))
      rw [q2', q8, q13] at e2
      simp only [wv1] at e2
      exact ⟨h2, T2, e2⟩
    have vz := @whV_0 ((shtN hc tw s).testBit x) (decide (bct Mm = 0)) (decide (a = b) || (!eb.testBit a && !eb.testBit b)) (decide (24 < k + (F + u.r - 1) / u.r)) (anyN m 0 (gaB D e k ((F + u.r - 1) / u.r) (nI a) (nI b))) (anyN m 0 (crB D e k ((F + u.r - 1) / u.r) t0)) (!drB xa e u.dd || !drB xb e u.dd) (anyN ((F + u.r - 1) / u.r) k (fun k => !lvB h0 ml (nI t0) (nI e) (nI k))) (anyN ((F + u.r - 1) / u.r) k (fun k => u.st (fct t0 s F e k (wvN h0 s e k) (bct Mm) ((F + u.r - 1) / u.r) (V t0) ag))) (anyN ((F + u.r - 1) / u.r) k (fun k => u.qu (fct t0 s F e k (wvN h0 s e k) (bct Mm) ((F + u.r - 1) / u.r) (V t0) ag))) (decide (L < V t0 + wr)) (u.ky && anyN ((F + u.r - 1) / u.r) k (fun k => !kyB (nI a) (nI b) (hol Tk P K Bk t0 (e * 24 + k) mk))) (anyN nf 0 (flP h0 t0 s e k ((F + u.r - 1) / u.r)))
    have vb := whV_p ((shtN hc tw s).testBit x) (decide (bct Mm = 0)) (decide (a = b) || (!eb.testBit a && !eb.testBit b)) (decide (24 < k + (F + u.r - 1) / u.r)) (anyN m 0 (gaB D e k ((F + u.r - 1) / u.r) (nI a) (nI b))) (anyN m 0 (crB D e k ((F + u.r - 1) / u.r) t0)) (!drB xa e u.dd || !drB xb e u.dd) (anyN ((F + u.r - 1) / u.r) k (fun k => !lvB h0 ml (nI t0) (nI e) (nI k))) (anyN ((F + u.r - 1) / u.r) k (fun k => u.st (fct t0 s F e k (wvN h0 s e k) (bct Mm) ((F + u.r - 1) / u.r) (V t0) ag))) (anyN ((F + u.r - 1) / u.r) k (fun k => u.qu (fct t0 s F e k (wvN h0 s e k) (bct Mm) ((F + u.r - 1) / u.r) (V t0) ag))) (decide (L < V t0 + wr)) (u.ky && anyN ((F + u.r - 1) / u.r) k (fun k => !kyB (nI a) (nI b) (hol Tk P K Bk t0 (e * 24 + k) mk))) (anyN nf 0 (flP h0 t0 s e k ((F + u.r - 1) / u.r)))
    generalize whV ((shtN hc tw s).testBit x) (decide (bct Mm = 0)) (decide (a = b) || (!eb.testBit a && !eb.testBit b)) (decide (24 < k + (F + u.r - 1) / u.r)) (anyN m 0 (gaB D e k ((F + u.r - 1) / u.r) (nI a) (nI b))) (anyN m 0 (crB D e k ((F + u.r - 1) / u.r) t0)) (!drB xa e u.dd || !drB xb e u.dd) (anyN ((F + u.r - 1) / u.r) k (fun k => !lvB h0 ml (nI t0) (nI e) (nI k))) (wh9 (anyN ((F + u.r - 1) / u.r) k (fun k => u.st (fct t0 s F e k (wvN h0 s e k) (bct Mm) ((F + u.r - 1) / u.r) (V t0) ag))) (anyN ((F + u.r - 1) / u.r) k (fun k => u.qu (fct t0 s F e k (wvN h0 s e k) (bct Mm) ((F + u.r - 1) / u.r) (V t0) ag))) (decide (L < V t0 + wr)) (u.ky && anyN ((F + u.r - 1) / u.r) k (fun k => !kyB (nI a) (nI b) (hol Tk P K Bk t0 (e * 24 + k) mk))) (anyN nf 0 (flP h0 t0 s e k ((F + u.r - 1) / u.r)))) = v at ec key vz vb
    have Sc1 : SC h0 h1 m D M V := SC.ta ⟨w, Ac, Dc, Vc⟩ J hm T1
    refine ⟨v, h1, ?_, Sc1, T1.up hm, fun hr S => ?_, fun v0 hr S => ?_, fun v0 => ?_⟩
    · rw [ask_g w Jv B Dc, a0, ok, if_pos rfl, ec]
    · obtain ⟨g', Tg, eg⟩ := key (th hr) S.th
      have e1 := aR hr S
      rw [ok] at e1
      refine ⟨g', ?_, S.th.tq Tg, agr.tr (agr.uI rfl agr.rfl) (Tg.2.up (by decide)), ((Tg.2.fr (q := false) (cs := []) (fs := [(137, 0)]) (by decide)).I rfl).trans uI_eq⟩
      rw [e_298, b_298_0, pI_137 S.1, th_e, is_137 S.th.1, e1, av_cI_r, Option.bind_some, if_neg (show ¬ bI true = 0 by decide), is_137 S.th.1, eg, av_cI_r, Option.bind_some]
    · obtain ⟨g', Tg, eg⟩ := key (th hr) S.th
      have e1 := aR hr S
      rw [ok] at e1
      refine ⟨g', ?_, S.th.tq Tg, agr.tr (agr.uI rfl agr.rfl) (Tg.2.up (by decide)), ((Tg.2.fr (q := false) (cs := []) (fs := [(137, 0)]) (by decide)).I rfl).trans uI_eq⟩
      have vp : 0 < v := by
        rcases vb with z | z
        · exact absurd z v0
        · exact z
      rw [e_299, b_299_0, pI_137 S.1, th_e, is_137 S.th.1, e1, av_cI_r, Option.bind_some, if_neg (show ¬ bI true = 0 by decide), is_137 S.th.1, eg, av_cI_r, Option.bind_some, if_pos vp]
    · obtain ⟨z2, z3, z4, z7, z11⟩ := vz v0
      have Pd := dp z7
      rw [Bool.or_eq_false_iff, Bool.not_eq_false', Bool.not_eq_false'] at z7
      rw [decide_eq_false_iff_not] at z2 z4 z11
      rw [Bool.or_eq_false_iff, decide_eq_false_iff_not] at z3
      obtain ⟨ya1, ya2⟩ := drB_y z7.1 da
      obtain ⟨yb1, yb2⟩ := drB_y z7.2 db
      have z7' := z7
      rw [ya1, yb1] at z7'
      have yae := drB_le ya2 (show e < 100 by omega) z7'.1
      have ybe := drB_le yb2 (show e < 100 by omega) z7'.2
      generalize xa.toNatClampNeg = ya at Pd ya1 ya2 yae
      generalize xb.toNatClampNeg = yb at Pd yb1 yb2 ybe
      have H1 : 1 ≤ (F + u.r - 1) / u.r := Nat.div_pos (by omega) (by omega)
      generalize hH : (F + u.r - 1) / u.r = H at *
      have agl : ag ≤ 99 := by
        rcases R.2 with z | ⟨c, f, -, -, -, z⟩
        · omega
        · rw [← z]; exact agP_le _ _
      have a226 := T.1
      have e4 : h1.2.1 tw 4 = nI (V t0) := Sc1.2.2.2 t0 tw h6 hj
      have kp := c_keep (X := X) (d := dc + 5) (h := h1) (D := dF t0 s x F e k H u.r a b ya yb (bct Mm) (V t0) ag wr pr wa) T1.1 hm Sc1.2.2.1.1 (Pd.1 0 (by decide)) (Pd.1 15 (by decide)) h6 ((T1.2.R (fM_d (by decide) (by decide) (by decide) (by omega))).trans ((Tc t0).trans hj)) a226 (T1.2.k (Ac.k T.2.1)) e4
      refine ⟨_, fun i => if i = m then dF t0 s x F e k H u.r a b ya yb (bct Mm) (V t0) ag wr pr wa else D i, fun i => if i = m then Mm else M i, fun i => if i = m then NN else N i, fun t => if t = t0 then V t0 + wr else V t, kp, hm, ⟨by omega, fun i hi => ?_, fun i j hij hj => ?_⟩, fun t => ?_, ⟨T1.1, agr.uI fT_17 (agr.uI (fT_4 h6 hj) Sc1.2.1), ⟨uI_eq, fun i hi => ?_⟩, fun t' a' ht' e' => ?_⟩, fun i hi => ?_, fun t z => if_neg (fun y => by rw [y, hj] at z; cases z), ?_, fun hr S => ?_⟩
      · dsimp only
        by_cases z : i = m
        · rw [if_pos z, if_pos z, if_pos z]
          exact ⟨h6, b2, b3, ⟨p1, p2⟩, by show e < 100; omega, by show k < 24; omega, ⟨H1, by show k + H ≤ 24; omega⟩, ⟨by show 1 ≤ u.r; omega, by show u.r ≤ 12; omega⟩, hH.symm, by show a < 10; omega, by show b < 10; omega, z3.1, ⟨yae, ybe⟩, rfl, by show 1 ≤ bct Mm; omega, V9 t0, agl, by show wr ≤ 9999; omega, wr1.2.1, wr1.2.2, bM, bN, eq, nb⟩
        · rw [if_neg z, if_neg z, if_neg z]
          exact B.2.1 i (by omega)
      · dsimp only
        rw [if_neg (show ¬ i = m by omega)]
        by_cases z : j = m
        · rw [if_pos z]
          exact de i (by omega)
        · rw [if_neg z]
          exact B.2.2 i j hij (by omega)
      · dsimp only
        split
        · omega
        · exact V9 t
      · dsimp only
        by_cases z : i = m
        · rw [if_pos z, if_pos z, z]
          refine ⟨fun j hj => ?_, ?_⟩
          · rw [uI_ne (by omega), uI_ne (by omega)]
            exact Pd.1 j hj
          · exact Pd.2
        · rw [if_neg z, if_neg z]
          have y := Sc1.2.2.1.2 i (by omega)
          refine ⟨fun j hj => ?_, ?_⟩
          · rw [uI_ne (by omega), uI_ne (by omega)]
            exact y.1 j hj
          · exact y.2
      · have b' := tws_b J (tws_t ht' e')
        dsimp only
        rw [uI_ne (by omega)]
        by_cases z : t' = t0
        · rw [if_pos z]
          rw [z, hj] at e'
          injection e' with e'
          rw [← e']
          exact uI_eq
        · rw [if_neg z]
          have dd := J.2 t' t0 a' tw ht' h6 z e' hj
          rw [uI_ne (by omega)]
          exact Sc1.2.2.2 t' a' ht' e'
      · dsimp only
        rw [if_neg (show ¬ i = m by omega), if_neg (show ¬ i = m by omega), if_neg (show ¬ i = m by omega)]
        exact ⟨rfl, rfl, rfl⟩
      · exact agr.uI rfl (agr.uI (by simp [FP, a226]) agr.rfl)
      · obtain ⟨g', Tg, eg⟩ := key (th hr) S.th
        have e1 := aR hr S
        rw [ok] at e1
        rw [v0] at eg
        have S' := S.th.tq Tg
        obtain ⟨wg, A1, Dr, Wd, Vr⟩ := S'
        have eN : NN = ro (roP g' mn qn t0 s x (nI e)) (min W (C0 - x)) F := by rw [roP_fr (A1.sub (by decide +kernel)), hNN]
        have wv1 : wvN g' s e k = wvN h0 s e k := wv_fr (A1.sub (by decide +kernel))
        obtain ⟨G, eG, wG, rG, pG, c45, c146, c150⟩ := s_drop0 (X := X) (d := d) (h := hr) (g := g') (wr := wr) (pr := pr) (wa := wa) S.1 wg o (uQ.fr (A1.sub (by decide +kernel))) (Jw.fr (A1.sub (by decide +kernel))) Nb (show neQ g' mn qn from ⟨(A1.I rfl).trans Nq.1, fun i hi => (A1.I rfl).trans (Nq.2 i hi)⟩) hm Dr.1 h6 b2 hx C10 p6 p1 p2 (show e < 100 by omega) (show k < 24 by omega) (show a < 10 by omega) (show b < 10 by omega) hH.symm ((A1.I rfl).trans r2) ((A1.I rfl).trans r4) ((A1.I rfl).trans r6) (Vr t0 h6) ((A1.I rfl).trans (hx8.trans ya1)) ((A1.I rfl).trans (hx9.trans yb1)) yae ybe eN bN bM nb (fun f hf c hc => Wd.1 t0 h6 s b2 f hf c hc) de eq R (by rw [wv1]; exact wr2) (by rw [wv1]; exact pr2) (by rw [wv1]; exact wa2) e1 eg
        have RG : ∀ {cs : List Nat} {fs : List (Nat × Nat)}, fpD false cs fs false ([146, 150, 166, 167] ++ rCells) [(137, 45)] = true → agr (FP false cs fs) g' G := fun D => agr.mono rG (fW_up D)
        have f143 := RG (cs := [143]) (fs := []) (by decide +kernel)
        refine ⟨G, eG, ⟨wG, agr.tr A1 (RG (by decide +kernel)), ⟨c45, fun i hi => ?_⟩, ⟨fun t' ht' s' hs' f hf c hc => ?_, fun i hi => ?_⟩, fun t' ht' => ?_⟩, agr.tr (agr.uI rfl agr.rfl) (agr.tr (Tg.2.up (by decide +kernel)) (agr.mono rG (fun a k e => fW_of e))), ((RG (cs := []) (fs := [(137, 0)]) (by decide +kernel)).I rfl).trans (((Tg.2.fr (q := false) (cs := []) (fs := [(137, 0)]) (by decide)).I rfl).trans uI_eq)⟩
        · dsimp only
          by_cases z : i = m
          · rw [if_pos z, if_pos z, z]
            exact pG
          · rw [if_neg z, if_neg z]
            have y := Dr.2 i (by omega)
            unfold dpr at y ⊢
            rw [rG.I (fW_i (a := 168) (by decide) (by decide) z), rG.I (fW_i (a := 169) (by decide) (by decide) z), rG.I (fW_i (a := 170) (by decide) (by decide) z), rG.I (fW_i (a := 171) (by decide) (by decide) z), rG.I (fW_i (a := 172) (by decide) (by decide) z), rG.I (fW_i (a := 173) (by decide) (by decide) z), rG.I (fW_i (a := 174) (by decide) (by decide) z), rG.I (fW_i (a := 175) (by decide) (by decide) z), rG.I (fW_i (a := 176) (by decide) (by decide) z), rG.I (fW_i (a := 177) (by decide) (by decide) z), rG.I (fW_i (a := 178) (by decide) (by decide) z), rG.I (fW_i (a := 179) (by decide) (by decide) z), rG.I (fW_i (a := 180) (by decide) (by decide) z), rG.I (fW_i (a := 181) (by decide) (by decide) z), rG.I (fW_i (a := 182) (by decide) (by decide) z), rG.I (fW_i (a := 183) (by decide) (by decide) z), rG.I (fW_i (a := 184) (by decide) (by decide) z), rG.L (fW_i (a := 185) (by decide) (by decide) z)]
            exact y
        · rw [c146, wsW_p (t := t0) (s := s) (x := x) (e := e) (Dm := dF t0 s x F e k H u.r a b ya yb (bct Mm) (V t0) ag wr pr wa) (Mm := Mm) rfl rfl rfl h6 b2 ht' hs' hf hc eq (fun c hc f hf z => (nb c hc f hf z).2), wsh]
          rw [if_pos rfl, if_pos rfl, wsh_cg (D := D) (M := M) m (fun i hi => ⟨if_neg (by omega), if_neg (by omega)⟩), Wd.1 t' ht' s' hs' f hf c hc]
          cases rch (dF t0 s x F e k H u.r a b ya yb (bct Mm) (V t0) ag wr pr wa) Mm t' s' f c with
          | true => rw [if_pos rfl, if_pos rfl]; rfl
          | false => rw [if_neg (show ¬ false = true by decide), if_neg (show ¬ false = true by decide)]
        · dsimp only
          by_cases z : i = m
          · rw [if_pos z]
            exact (f143.I rfl).trans ((A1.I rfl).trans r2)
          · rw [if_neg z]
            exact (f143.I rfl).trans (Wd.2 i (by omega))
        · rw [c150]
          dsimp only
          by_cases z : t' = t0
          · rw [if_pos z, z, pk_us]
          · rw [if_neg z, pk_un z]
            exact Vr t' ht'
end
