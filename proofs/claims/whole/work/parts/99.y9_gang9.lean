/-! gangs -/
def isH (h : av_H) (p : Nat) : Bool := decide (h.2.1 159 p = 1)
def tgH (h : av_H) (a b : Nat) : Nat := (h.2.1 190 (10 * a + b)).toInt.toNat
theorem isH_e {h : av_H} (J : J_el h) : ∃ b, b < 1024 ∧ h.2.1 27 3 = nI b ∧ (∀ p, p < 10 → isH h p = b.testBit p) ∧ ∀ p, p < 10 → h.2.1 159 p = bI (isH h p) := by
  obtain ⟨b, h1, h2, h3⟩ := J
  have e : ∀ p, p < 10 → isH h p = b.testBit p := fun p hp => by
    rw [isH, h3 p hp]
    cases b.testBit p <;> decide
  exact ⟨b, h1, h2, e, fun p hp => by rw [e p hp]; exact h3 p hp⟩
theorem tgH_e {h : av_H} (J : J_to h) {a b : Nat} (ha : a < 10) (hb : b < 10) : tgH h a b ≤ 99 ∧ h.2.1 190 (10 * a + b) = nI (tgH h a b) ∧ h.2.1 30 (a * 10 + b) = nI (tgH h a b) := by
  obtain ⟨n, h1, h2, h3⟩ := J a ha b hb
  have e : tgH h a b = n := by
    rw [tgH, h2, nI_toInt (by omega)]
    rfl
  rw [e]
  exact ⟨h1, h2, h3⟩
theorem isH_f {h h' : av_H} (A : agr (FP false [159] []) h h') : isH h' = isH h := by
  funext p
  rw [isH, isH, A.I rfl]
theorem tgH_f {h h' : av_H} (A : agr (FP false [190] []) h h') : tgH h' = tgH h := by
  funext a b
  rw [tgH, tgH, A.I rfl]
/-- the pairing that is known is right -/
def paK (h g : av_H) : Prop := g.2.1 27 13 = 1 ∧ g.2.1 27 2 = nI (gN (isH h) (tgH h) 10 1023).2 ∧ ∀ who, who < 10 → g.2.1 29 who = oI (gwV (isH h) (tgH h) who 10 1023)
def J_pa (h : av_H) : Prop := h.2.1 27 13 = 0 ∨ paK h h
theorem J_pa.fr {h h' : av_H} (J : J_pa h) (A : agr (FP false [29, 159, 190] [(27, 2), (27, 13)]) h h') : J_pa h' := by
  refine J.imp (fun z => (A.I rfl).trans z) (fun z => ?_)
  rw [paK, isH_f (A.sub (by decide)), tgH_f (A.sub (by decide))]
  exact ⟨(A.I rfl).trans z.1, (A.I rfl).trans z.2.1, fun who hw => (A.I rfl).trans (z.2.2 who hw)⟩
theorem av_full {isE : Nat → Bool} : avN isE 1023 = (ecN isE 10) := by
  refine fct_cg 10 (fun e he => ?_)
  rw [show Nat.testBit 1023 e = true from (show ∀ e, e < 10 → Nat.testBit 1023 e = true by decide) e he, Bool.and_true]
section
variable {X : av_X} {d : Nat} {isE : Nat → Bool} {tg : Nat → Nat → Nat} {h : av_H}
theorem c_chP (w : WF h) (G : CG isE tg h) (T : ∀ q, q ≤ (ocN isE 10) → TB isE tg h q) : ∃ h', WF h' ∧ off false [29] [(27, 2)] h h' ∧ h'.2.1 27 2 = nI (gN isE tg 10 1023).2 ∧ (∀ who, who < 10 → h'.2.1 29 who = oI (gwV isE tg who 10 1023)) ∧ ev X (d + 5) 33 [vr (some 27)] h = av_rV h' := by
  have ep := eo_p (isE := isE) 10
  have her : ∀ e, e < 10 → isE e = true → erN isE 10 (ecN isE e) = e := fun e he y => er_w y 10 he
  have hot : ∀ q, q < 10 → isE q = false → erN (fun q => !isE q) 10 (ocN isE q) = q := fun q hq y => er_w (isE := fun q => !isE q) (show (!isE q) = true by rw [y]; rfl) 10 hq
  have r0 : relU isE 1023 0 := fun e he _ => by
    rw [Nat.zero_testBit, (show ∀ e, e < 10 → Nat.testBit 1023 e = true by decide) e he]
    rfl
  have u0 : 0 < 2 ^ (ecN isE 10) := Nat.pow_pos (by decide)
  have b0 : bct 0 = 0 := by decide
  have o0 : ocN isE (10 - 10) = 0 := rfl
  have ub := gN_ub (isE := isE) (tg := tg) 10 1023 (by omega)
  have lb := gN_lb (isE := isE) (tg := tg) 10 1023 (by omega)
  rw [av_full, o0] at ub lb
  have f : bct 0 + (gN isE tg 10 1023).1 = min (ecN isE 10) (ocN isE 10) := by
    rw [b0]
    omega
  have bg := bg_eq (isE := isE) (tg := tg) (mn := min (ecN isE 10) (ocN isE 10)) rfl her hot 10 (by omega) 1023 0 u0 r0 (by rw [b0]; omega)
  rw [fPC, if_pos f, o0] at bg
  have fl := fill_29 (X := X) (d := d + 2) (v := -1) w 10 0 (by omega)
  rw [cpF_0] at fl
  have w1 : WF (setC h 29 (cpF (h.2.1 29) 0 (fun _ => -1) 10)) := WF_setC w
  have s0 : setC h 29 (h.2.1 29) = h := setC_id
  rw [s0] at fl
  have O1 : off false [29] [] h (setC h 29 (cpF (h.2.1 29) 0 (fun _ => -1) 10)) := agr.setC (fun j => rfl) agr.rfl
  have c1 : ∀ who, who < 10 → (setC h 29 (cpF (h.2.1 29) 0 (fun _ => -1) 10)).2.1 29 who = -1 := fun who hw => by
    rw [setC_eq, show who = 0 + who by omega, cpF_in hw]
  generalize setC h 29 (cpF (h.2.1 29) 0 (fun _ => -1) 10) = g at fl w1 O1 c1
  have G1 := G.fr (O1.fr (by decide))
  have T1 : ∀ q, q ≤ (ocN isE 10) → TB isE tg g q := fun q hq u hu => (O1.I rfl).trans (T q hq u hu)
  have t0 := T1 0 (by omega) 0 u0
  rw [show (ocN isE 10) - 0 = (ocN isE 10) - 0 from rfl, show bC isE tg ((ocN isE 10) - 0) 0 = some (gN isE tg 10 1023).2 from bg] at t0
  have w2 : WF (av_uI g 27 2 (nI (gN isE tg 10 1023).2)) := WF_uI w1
  have O2 : off false [29] [(27, 2)] h (av_uI g 27 2 (nI (gN isE tg 10 1023).2)) := agr.uI rfl (O1.up (by decide))
  obtain ⟨h', a1, a2, a3, a4⟩ := cp_lp (X := X) (d := d) (G.fr (O2.fr (by decide))) (fun q hq u hu => (O2.I rfl).trans (T q hq u hu)) 10 1023 0 (av_uI g 27 2 (nI (gN isE tg 10 1023).2)) (by omega) u0 r0 (by rw [b0]; omega) f w2 agr.rfl
  refine ⟨h', a1, agr.tr O2 (a2.up (by decide)), (a2.I rfl).trans uI_eq, fun who hw => ?_, ?_⟩
  · rw [a3 who hw, uI_ne (by decide), c1 who hw]
    cases gwV isE tg who 10 1023 <;> rfl
  · rw [e_33, b_33_0, gR_27_1 w, e_383, b_383_0, ln_29 w, show (vi (0 : Int32)) = vi (nI 0) from rfl, show bd X (d + 3) 383 5 [(0, vr (some 29)), (1, vi (-1)), (2, vi (nI 0)), (3, vi (nI 10))] [] h = av_rV g from fl, av_cV_r, Option.bind_some, is_27 w1, c_bstA w1 G1 (by omega) u0, av_cI_r, Option.bind_some]
    dsimp only
    rw [t0]
    show Option.bind (av_pI g (some 27) 3 2 (nI (gN isE tg 10 1023).2)) _ = _
    rw [pI_27 w1]
    exact a4
theorem c_pair (w : WF h) (Je : J_el h) (Jt : J_to h) (Jp : J_pa h) : ∃ h', WF h' ∧ off false [29, 32, 33, 34] [(27, 2), (27, 11), (27, 12), (27, 13)] h h' ∧ paK h h' ∧ ev X (d + 6) 28 [vr (some 27)] h = av_rV h' := by
  rcases Jp with z | z
  · obtain ⟨b, b10, hb, hE, _⟩ := isH_e Je
    obtain ⟨h1, a1, a2, a3, a4⟩ := c_list (X := X) (d := d + 2) (isE := isH h) (tg := tgH h) w hb b10 hE (fun a b ha hb => ⟨(tgH_e Jt ha hb).1, (tgH_e Jt ha hb).2.2⟩)
    have ep := eo_p (isE := isH h) 10
    obtain ⟨h2, b1, b2, b3, b4⟩ := tb_out (X := X) (d := d + 1) a3 (ocN (isH h) 10 + 1) h1 (Nat.le_refl _) a1 agr.rfl (fun q h1 h2 => absurd h2 (by omega))
    obtain ⟨h3, c1, c2, c3, c4, c5⟩ := c_chP (X := X) (d := d) b1 (a3.fr (b2.fr (by decide))) b3
    refine ⟨av_uI h3 27 13 1, WF_uI c1, agr.uI rfl (agr.tr a2 (agr.tr (b2.up (by decide)) (c2.up (by decide)))), ⟨uI_eq, by rw [uI_nk (by decide)]; exact c3, fun who hw => by rw [uI_ne (by decide)]; exact c4 who hw⟩, ?_⟩
    rw [m1s, nI_prd (by omega), show ocN (isH h) 10 + 1 - 1 = ocN (isH h) 10 by omega] at b4
    rw [e_28, b_28_0, gI_27_13 w, z, if_pos rfl, is_27 w, a4, av_cV_r, Option.bind_some, gI_27_12 a1, a3.2.1, b4, b_28_9, if_pos (show (-1 : Int32) < 0 by decide), is_27 b1, c5, av_cV_r, Option.bind_some, show (1 : Int32) = bI true from rfl, pZ_27 c1]
  · refine ⟨h, w, agr.rfl, z, ?_⟩
    rw [e_28, b_28_0, gI_27_13 w, z.1, if_neg (by decide)]
theorem gangs_ok (w : WF h) (Je : J_el h) (Jt : J_to h) (Jp : J_pa h) (v : Int32) : ∃ z h1 h2, ev X (d + 7) 159 [vr (some 0), vi v] h = av_rI z h1 ∧ ev X (d + 7) 336 [vr (some 137), vi v] h1 = av_rI z h2 ∧ WF h2 ∧ J_pa h2 ∧ off false [29, 32, 33, 34, 191, 192] [(27, 2), (27, 11), (27, 12), (27, 13), (137, 0)] h h2 := by
  cases q : rg v 0 10 with
  | false =>
    have O : off false [29, 32, 33, 34, 191, 192] [(27, 2), (27, 11), (27, 12), (27, 13), (137, 0)] h (th h) := agr.uI rfl agr.rfl
    refine ⟨-1, h, th h, ?_, ?_, WF_uI w, Jp.fr (off.fr (r := false) (ds := []) (gs := [(137, 0)]) (agr.uI rfl agr.rfl) (by decide)), O⟩
    · rw [e_159, b_159_0, c_within', tI_0, tI_10, q, if_pos (show bI false = 0 from rfl)]
    · rw [e_336, b_336_0, pI_137 w, th_e, s_within', tI_0, tI_10, q, if_pos (show bI false = 0 from rfl)]
  | true =>
    obtain ⟨t, t11, rfl⟩ := rg_nI (b := 10) (by decide) q
    obtain ⟨h1, a1, a2, a3, a4⟩ := c_pair (X := X) (d := d) w Je Jt Jp
    have w2 : WF (th h1) := WF_uI a1
    have O2 : off false [29, 32, 33, 34] [(27, 2), (27, 11), (27, 12), (27, 13)] h h1 := a2
    have O3 : off false [29, 32, 33, 34] [(27, 2), (27, 11), (27, 12), (27, 13), (137, 0)] h (th h1) := agr.uI rfl (a2.up (by decide))
    have G : GP (isH h) (tgH h) (th h1) := ⟨fun p hp => by
      obtain ⟨_, _, _, _, e⟩ := isH_e Je
      exact (O3.I rfl).trans (e p hp), fun a b ha hb => ⟨(tgH_e Jt ha hb).1, (O3.I rfl).trans (tgH_e Jt ha hb).2.1⟩⟩
    obtain ⟨h2, b1, b2, b3, b4⟩ := s_fg (X := X) (d := d + 4) G w2
    have O4 : off false [29, 32, 33, 34, 191, 192] [(27, 2), (27, 11), (27, 12), (27, 13), (137, 0)] h h2 := agr.tr (O3.up (by decide)) (b2.up (by decide))
    have O5 : off false [191, 192] [(137, 0)] h1 h2 := agr.tr (agr.uI rfl agr.rfl) (b2.up (by decide))
    have jp : J_pa h2 := by
      refine Or.inr ?_
      rw [paK, isH_f (O4.fr (by decide)), tgH_f (O4.fr (by decide))]
      exact ⟨(O5.I rfl).trans a3.1, (O5.I rfl).trans a3.2.1, fun who hw => (O5.I rfl).trans (a3.2.2 who hw)⟩
    have G2 := G.fr (b2.fr (by decide))
    by_cases t0 : t = 0
    · refine ⟨nI (gN (isH h) (tgH h) 10 1023).2, h1, h2, ?_, ?_, b1, jp, O4⟩
      · rw [e_159, b_159_0, c_within', tI_0, tI_10, q, if_neg (show ¬ bI true = 0 by decide), gR_0_6 w, is_27 w, a4, av_cV_r, Option.bind_some, t0, if_pos (show nI 0 = 0 from rfl), gR_0_6 a1, gI_27_2 a1, a3.2.1]
      · rw [e_336, b_336_0, pI_137 a1, th_e, s_within', tI_0, tI_10, q, if_neg (show ¬ bI true = 0 by decide), is_137 w2, b4, av_cV_r, Option.bind_some, t0, if_pos (show nI 0 = 0 from rfl), gR_137_71 b1, show (1023 : Int32) = nI 1023 from rfl, ld_191 b1 (by omega)]
        have := (b3 10 (by omega) 1023 (by omega)).1
        rw [show 1024 * (10 - 10) + 1023 = 1023 from rfl] at this
        rw [this]
    · have tn : ¬ nI t = 0 := fun y => t0 ((nI_eq (b := 0) (by omega) (by omega)).mp y)
      refine ⟨oI (gwV (isH h) (tgH h) (t - 1) 10 1023), h1, h2, ?_, ?_, b1, jp, O4⟩
      · rw [e_159, b_159_0, c_within', tI_0, tI_10, q, if_neg (show ¬ bI true = 0 by decide), gR_0_6 w, is_27 w, a4, av_cV_r, Option.bind_some, if_neg tn, gR_0_6 a1, gR_27_1 a1, nI_prd (by omega), ld_29 a1 (by omega), a3.2.2 _ (by omega)]
      · rw [e_336, b_336_0, pI_137 a1, th_e, s_within', tI_0, tI_10, q, if_neg (show ¬ bI true = 0 by decide), is_137 w2, b4, av_cV_r, Option.bind_some, if_neg tn, is_137 b1, nI_prd (by omega), s_gw G2 b1 b3 (by omega), av_cI_r, Option.bind_some]
end
