/-! gangs: the class's pairing -/
section
variable {X : av_X} {d : Nat} {isE : Nat → Bool} {tg : Nat → Nat → Nat} {h0 : av_H}
theorem li_lp {b : Nat} (hb : h0.2.1 27 3 = nI b) (b10 : b < 1024) (hE : ∀ p, p < 10 → isE p = b.testBit p) : ∀ m p h, p + m = 10 → WF h → off false [29, 32, 33, 34] [(27, 2), (27, 11), (27, 12), (27, 13)] h0 h → h.2.1 27 11 = nI (ecN isE p) → h.2.1 27 12 = nI (ocN isE p) → (∀ j, j < ecN isE p → h.2.1 32 j = nI (erN isE p j)) → (∀ j, j < ocN isE p → h.2.1 33 j = nI (erN (fun q => !isE q) p j)) → ∃ h', WF h' ∧ off false [29, 32, 33, 34] [(27, 2), (27, 11), (27, 12), (27, 13)] h0 h' ∧ h'.2.1 27 11 = nI (ecN isE 10) ∧ h'.2.1 27 12 = nI (ocN isE 10) ∧ (∀ j, j < ecN isE 10 → h'.2.1 32 j = nI (erN isE 10 j)) ∧ (∀ j, j < ocN isE 10 → h'.2.1 33 j = nI (erN (fun q => !isE q) 10 j)) ∧ bd X (d + 2) 29 8 [(0, vr (some 27)), (1, vi (nI p))] [] h = av_rV h'
  | 0, p, h, hp, w, O, H1, H2, H3, H4 => by
    obtain rfl : p = 10 := by omega
    refine ⟨h, w, O, H1, H2, H3, H4, ?_⟩
    rw [b_29_8, if_neg (show ¬ nI 10 < 10 by decide)]
  | m + 1, p, h, hp, w, O, H1, H2, H3, H4 => by
    have hb' : h.2.1 27 3 = nI b := (O.I rfl).trans hb
    have ep := eo_p (isE := isE) p
    have es := ec_s (isE := isE) (p := p)
    have os := oc_s (isE := isE) (p := p)
    rw [b_29_8, if_pos (show nI p < 10 from nI_lt (b := 10) (by omega) (by omega)), is_27 w, c_isEl' w hb' b10 (by omega), ← hE p (by omega), nI_1]
    cases z : isE p with
    | false =>
      rw [z, if_neg (by decide)] at es
      replace es : ecN isE (p + 1) = ecN isE p := es
      rw [z, Bool.not_false, if_pos rfl] at os
      have w1 : WF (av_uI h 33 (ocN isE p) (nI p)) := WF_uI w
      rw [if_pos (show bI false = 0 from rfl), gR_27_7 w, gI_27_12 w, H2, st_33 w (by omega), gI_27_12 w1, uI_ne (by decide), H2, nI_1, pI_27 w1]
      refine li_lp hb b10 hE m (p + 1) _ (by omega) (WF_uI w1) (agr.uI rfl (agr.uI rfl O)) (by rw [uI_nk (by decide), uI_ne (by decide), H1, es]) (by rw [uI_eq, os]) (fun j hj => ?_) (fun j hj => ?_)
      · rw [uI_ne (by decide), uI_ne (by decide), erN, z, Bool.false_and, if_neg (by decide)]
        exact H3 j (by omega)
      · rw [uI_ne (by decide), erN, z, Bool.not_false, Bool.true_and]
        by_cases y : j = ocN isE p
        · rw [y, uI_eq, if_pos (decide_eq_true (show ecN (fun q => !isE q) p = ocN isE p from rfl))]
        · rw [uI_nk y, if_neg (fun q => y (of_decide_eq_true q).symm)]
          exact H4 j (by omega)
    | true =>
      rw [z, if_pos rfl] at es
      rw [z, Bool.not_true, if_neg (by decide)] at os
      replace os : ocN isE (p + 1) = ocN isE p := os
      have w1 : WF (av_uI h 32 (ecN isE p) (nI p)) := WF_uI w
      rw [if_neg (show ¬ bI true = 0 by decide), gR_27_6 w, gI_27_11 w, H1, st_32 w (by omega), gI_27_11 w1, uI_ne (by decide), H1, nI_1, pI_27 w1]
      refine li_lp hb b10 hE m (p + 1) _ (by omega) (WF_uI w1) (agr.uI rfl (agr.uI rfl O)) (by rw [uI_eq, es]) (by rw [uI_nk (by decide), uI_ne (by decide), H2, os]) (fun j hj => ?_) (fun j hj => ?_)
      · rw [uI_ne (by decide), erN, z, Bool.true_and]
        by_cases y : j = ecN isE p
        · rw [y, uI_eq, if_pos (decide_eq_true rfl)]
        · rw [uI_nk y, if_neg (fun q => y (of_decide_eq_true q).symm)]
          exact H3 j (by omega)
      · rw [uI_ne (by decide), uI_ne (by decide), erN, z, Bool.not_true, Bool.false_and, if_neg (by decide)]
        exact H4 j (by omega)
theorem c_list {b : Nat} (w : WF h0) (hb : h0.2.1 27 3 = nI b) (b10 : b < 1024) (hE : ∀ p, p < 10 → isE p = b.testBit p) (ht : ∀ a b, a < 10 → b < 10 → tg a b ≤ 99 ∧ h0.2.1 30 (a * 10 + b) = nI (tg a b)) : ∃ h', WF h' ∧ off false [29, 32, 33, 34] [(27, 2), (27, 11), (27, 12), (27, 13)] h0 h' ∧ CG isE tg h' ∧ ev X (d + 3) 29 [vr (some 27)] h0 = av_rV h' := by
  have w1 : WF (av_uI h0 27 11 0) := WF_uI w
  obtain ⟨h', a1, a2, a3, a4, a5, a6, a7⟩ := li_lp (X := X) (d := d) hb b10 hE 10 0 (av_uI (av_uI h0 27 11 0) 27 12 0) (by omega) (WF_uI w1) (agr.uI rfl (agr.uI rfl agr.rfl)) (by rw [uI_nk (by decide), uI_eq]; rfl) (by rw [uI_eq]; rfl) (fun j hj => absurd hj (by rw [ecN, fb_ct]; omega)) (fun j hj => absurd hj (by rw [ocN, fb_ct]; omega))
  refine ⟨h', a1, a2, ⟨a3, a4, a5, a6, fun a b ha hb => ⟨(ht a b ha hb).1, (a2.I rfl).trans (ht a b ha hb).2⟩⟩, ?_⟩
  rw [e_29, b_29_0, pI_27 w, pI_27 w1, show (0 : Int32) = nI 0 from rfl]
  exact a7
theorem pb_lp {h : av_H} (w : WF h) (G : CG isE tg h) {i u : Nat} (hi : i < (ocN isE 10)) (hu : u < 2 ^ (ecN isE 10)) (T : TB isE tg h (i + 1)) : ∀ m j, j + m = (ecN isE 10) → bd X (d + 3) 31 26 [(0, vr (some 27)), (1, vi (nI i)), (2, vi (nI u)), (3, vi (oI (bI2 (erN (fun q => !isE q) 10) (erN isE 10) tg (bC isE tg ((ocN isE 10) - (i + 1))) i u j))), (4, vi (nI j))] [] h = bd X (d + 3) 31 40 [(0, vr (some 27)), (1, vi (nI i)), (2, vi (nI u)), (3, vi (oI (bC isE tg ((ocN isE 10) - i) u)))] [] h
  | 0, j, hj => by
    obtain rfl : j = (ecN isE 10) := by omega
    rw [b_31_26, gI_27_11 w, G.1, if_neg (nI_nlt (by omega) (by have := eo_p (isE := isE) 10; omega)), show (ocN isE 10) - i = ((ocN isE 10) - (i + 1)) + 1 by omega, bC.eq_1 isE tg ((ocN isE 10) - (i + 1) + 1), bN, show (ocN isE 10) - ((ocN isE 10) - (i + 1) + 1) = i by omega]
    rfl
  | m + 1, j, hj => by
    have ep := eo_p (isE := isE) 10
    have ht : ∀ a b, a < 10 → b < 10 → tg a b ≤ 99 := fun a b ha hb => (G.2.2.2.2 a b ha hb).1
    have l1 := bC_le (isE := isE) ht ((ocN isE 10) - (i + 1))
    have l2 := bI2_le (i := i) (used := u) ht l1 j
    have l3 := sw_le (i := i) (used := u) (j := j) ht l1
    rw [b_31_26, gI_27_11 w, G.1, if_pos (nI_lt (by omega) (by omega)), is_27 w, c_sum w G hi hu (by omega) T, av_cI_r, Option.bind_some]
    dsimp only
    rw [c_max', oI_max (fun r hr => by have := l2 r hr; omega) (fun r hr => by have := l3 r hr; omega), nI_1]
    exact pb_lp w G hi hu T m (j + 1) (by omega)
theorem c_putB {h : av_H} (w : WF h) (G : CG isE tg h) {i u : Nat} (hi : i ≤ (ocN isE 10)) (hu : u < 2 ^ (ecN isE 10)) (T : ∀ q, i < q → q ≤ (ocN isE 10) → TB isE tg h q) : ev X (d + 4) 31 [vr (some 27), vi (nI i), vi (nI u)] h = av_rV (av_uI h 34 (i * 2 ^ (ecN isE 10) + u) (oI (bC isE tg ((ocN isE 10) - i) u))) := by
  have ep := eo_p (isE := isE) 10
  have ix := ix_lt ep hi hu
  have fin : bd X (d + 3) 31 40 [(0, vr (some 27)), (1, vi (nI i)), (2, vi (nI u)), (3, vi (oI (bC isE tg ((ocN isE 10) - i) u)))] [] h = av_rV (av_uI h 34 (i * 2 ^ (ecN isE 10) + u) (oI (bC isE tg ((ocN isE 10) - i) u))) := by
    rw [b_31_40, gI_27_11 w, G.1, nb_shl (by omega) (by omega), nI_add, show (1024 : Int32) = nI 1024 from rfl, c_below', rg_lt ix (by decide), if_neg (show ¬ bI true = 0 by decide), gR_27_8 w, st_34 w ix]
  rw [e_31, b_31_0, gI_27_12 w, G.2.1]
  by_cases z : i < (ocN isE 10)
  · rw [if_pos (nI_lt z (by omega)), is_27 w, nI_1, c_bstA w G (by omega) hu, av_cI_r, Option.bind_some]
    dsimp only
    rw [T (i + 1) (by omega) (by omega) u hu, show (0 : Int32) = nI 0 from rfl, ← fin]
    exact pb_lp w G z hu (T (i + 1) (by omega) (by omega)) (ecN isE 10) 0 (by omega)
  · have u10 : u < 1024 := Nat.lt_of_lt_of_le hu (Nat.pow_le_pow_right (show 0 < 2 by decide) (show (ecN isE 10) ≤ 10 by omega))
    have bb : bct u ≤ 64 := fb_ct_le _ _
    rw [if_neg (nI_nlt (by omega) (by omega)), c_bc32' (by omega)]
    dsimp only
    rw [gI_27_11 w, G.1, gI_27_12 w, G.2.1, c_min', nI_min (by omega) (by omega)]
    have e1 : bC isE tg ((ocN isE 10) - i) u = if bct u = min (ecN isE 10) (ocN isE 10) then some 0 else none := by
      rw [show (ocN isE 10) - i = 0 by omega]
      rfl
    by_cases y : bct u = min (ecN isE 10) (ocN isE 10)
    · rw [if_pos (show nI (bct u) = nI (Nat.min (ecN isE 10) (ocN isE 10)) from congrArg nI y), b_31_15, ← fin, e1, if_pos y]
      rfl
    · rw [if_neg (fun q => y ((nI_eq (by omega) (by have : Nat.min (ecN isE 10) (ocN isE 10) ≤ (ecN isE 10) := Nat.min_le_left _ _; omega)).mp q)), b_31_15, ← fin, e1, if_neg y]
      rfl
theorem tb_in (G0 : CG isE tg h0) {i : Nat} (hi : i ≤ (ocN isE 10)) : ∀ m u h, u + m = 2 ^ (ecN isE 10) → WF h → off false [34] [] h0 h → (∀ q, i < q → q ≤ (ocN isE 10) → TB isE tg h q) → (∀ u', u' < u → h.2.1 34 (i * 2 ^ (ecN isE 10) + u') = oI (bC isE tg ((ocN isE 10) - i) u')) → ∃ h', WF h' ∧ off false [34] [] h0 h' ∧ (∀ q, i ≤ q → q ≤ (ocN isE 10) → TB isE tg h' q) ∧ bd X (d + 4) 28 13 [(0, vr (some 27)), (1, vi (nI i)), (2, vi (nI u))] [] h = bd X (d + 4) 28 9 [(0, vr (some 27)), (1, vi (nI i + (-1)))] [] h'
  | 0, u, h, hu, w, O, T, H => by
    have ep := eo_p (isE := isE) 10
    have G := G0.fr (O.fr (by decide))
    have p10 : 2 ^ (ecN isE 10) ≤ 1024 := Nat.pow_le_pow_right (show 0 < 2 by decide) (show (ecN isE 10) ≤ 10 by omega)
    obtain rfl : u = 2 ^ (ecN isE 10) := by omega
    refine ⟨h, w, O, fun q h1 h2 => ?_, ?_⟩
    · by_cases z : q = i
      · rw [z]
        exact H
      · exact T q (by omega) h2
    · rw [b_28_13, gI_27_11 w, G.1, nb_sh1 _ (by omega), if_neg (nI_nlt (by omega) (by omega))]
  | m + 1, u, h, hu, w, O, T, H => by
    have ep := eo_p (isE := isE) 10
    have G := G0.fr (O.fr (by decide))
    have p10 : 2 ^ (ecN isE 10) ≤ 1024 := Nat.pow_le_pow_right (show 0 < 2 by decide) (show (ecN isE 10) ≤ 10 by omega)
    rw [b_28_13, gI_27_11 w, G.1, nb_sh1 _ (by omega), if_pos (nI_lt (by omega) (by omega)), is_27 w, c_putB w G hi (by omega) T, av_cV_r, Option.bind_some, nI_1]
    refine tb_in G0 hi m (u + 1) _ (by omega) (WF_uI w) (agr.uI rfl O) (fun q h1 h2 v hv => ?_) (fun v hv => ?_)
    · have := Nat.mul_le_mul_right (2 ^ (ecN isE 10)) (show i + 1 ≤ q by omega)
      rw [Nat.add_mul] at this
      rw [uI_nk (by omega)]
      exact T q h1 h2 v hv
    · by_cases z : v = u
      · rw [z, uI_eq]
      · rw [uI_nk (by omega)]
        exact H v (by omega)
theorem tb_out (G0 : CG isE tg h0) : ∀ i h, i ≤ (ocN isE 10) + 1 → WF h → off false [34] [] h0 h → (∀ q, i ≤ q → q ≤ (ocN isE 10) → TB isE tg h q) → ∃ h', WF h' ∧ off false [34] [] h0 h' ∧ (∀ q, q ≤ (ocN isE 10) → TB isE tg h' q) ∧ bd X (d + 4) 28 9 [(0, vr (some 27)), (1, vi (nI i + (-1)))] [] h = bd X (d + 4) 28 9 [(0, vr (some 27)), (1, vi (-1))] [] h'
  | 0, h, hi, w, O, T => ⟨h, w, O, fun q hq => T q (by omega) hq, by rw [show nI 0 + (-1) = -1 by decide]⟩
  | i + 1, h, hi, w, O, T => by
    have ep := eo_p (isE := isE) 10
    obtain ⟨h1, a1, a2, a3, a4⟩ := tb_in (X := X) (d := d) G0 (show i ≤ (ocN isE 10) by omega) (2 ^ (ecN isE 10)) 0 h (by omega) w O (fun q h1 h2 => T q (by omega) h2) (fun u hu => absurd hu (by omega))
    obtain ⟨h2, b1, b2, b3, b4⟩ := tb_out G0 i h1 (by omega) a1 a2 a3
    refine ⟨h2, b1, b2, b3, ?_⟩
    rw [m1s, nI_prd (by omega), show i + 1 - 1 = i by omega, b_28_9, if_neg (fun y => absurd (i_lt.mp y) (by rw [nI_toInt (by omega)]; simp)), show (0 : Int32) = nI 0 from rfl, a4, b4]
end
