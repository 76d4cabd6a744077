/-! hindsight: all of it -/
theorem CMk.fr {n c : Nat} {p S W : Nat → Nat} {cm : Nat → Nat → Bool} {h h' : av_H} (F : CMk n c p S W cm h) (A : agr (FP false [] [(46, 2)]) h h') : CMk n c p S W cm h' := by
  unfold CMk at F ⊢
  rw [A.L rfl]
  exact F
section
variable {X : av_X} {d : Nat} {n c : Nat} {p S W : Nat → Nat} {ch : Nat → Nat → Nat} {cm : Nat → Nat → Bool} {h : av_H}
theorem sh_0 {h0 : av_H} (P0 : PD n c p S W ch h0) (D0 : CD cm h0) : ∀ m e h, e + m = 5 → WF h → off false [189] [(137, 0)] h0 h → ∃ h', WF h' ∧ off false [189] [(137, 0)] h0 h' ∧ bd X (d + 15) 374 30 [(0, vr (some 137)), (1, vi (nI 0)), (2, vi (nI (2 ^ n - 1))), (3, vi (nI (lfS n c p S cm (fsP n c p S W ch) e))), (4, vi (nI e))] [] h = av_rI (nI (wsN n W (nd (2 ^ n - 1) (lfS n c p S cm (fsP n c p S W ch) 5)))) h'
  | 0, e, h, he, w, O => by
    obtain rfl : e = 5 := by omega
    have P := P0.fr (O.fr (by decide))
    have pn : 2 ^ n ≤ 256 := Nat.pow_le_pow_right (n := 2) (by decide) P.1.1
    have p0 := Nat.two_pow_pos n
    refine ⟨h, w, O, ?_⟩
    rw [b_374_30, if_neg (show ¬ nI 5 < 5 by decide), is_137 w, nb_andn, s_worth w P.1 P.2.2.1 (nd_lt (n := 8) (by omega)), av_cL_r, Option.bind_some, lN_32]
  | m + 1, e, h, he, w, O => by
    have P := P0.fr (O.fr (by decide))
    have D := D0.fr (O.fr (by decide))
    have pn : 2 ^ n ≤ 256 := Nat.pow_le_pow_right (n := 2) (by decide) P.1.1
    have ll := lfS_lt (n := n) (c := c) (p := p) (S := S) (cm := cm) (o := fsP n c p S W ch) e
    obtain ⟨h1, w1, o1, f1, e1⟩ := s_plan (X := X) (d := d + 10) (k := 2) w P (show 4 - e ≤ 4 by omega) ll (by decide)
    rw [show 4 - (4 - e) = e by omega, plA, if_pos (show nI 2 = 2 from rfl)] at e1
    have O1 : off false [189] [(137, 0)] h0 h1 := agr.tr O o1
    have P1 := P0.fr (O1.fr (by decide))
    have e2 := s_beh (X := X) (d := d + 12) (e := e) (o := fsP n c p S W ch e (lfS n c p S cm (fsP n c p S W ch) e)) w1 P1.R (D0.fr (O1.fr (by decide))) (by omega) (show lfS n c p S cm (fsP n c p S W ch) e < 256 by omega) fsP_lt
    obtain ⟨h2, w2, O2, e3⟩ := sh_0 P0 D0 m (e + 1) h1 (by omega) w1 O1
    refine ⟨h2, w2, O2, ?_⟩
    rw [b_374_30, if_pos (show nI e < 5 from nI_lt (b := 5) (by omega) (by omega)), if_pos (show nI 0 = 0 from rfl), is_137 w, show (2 : Int32) = nI 2 from rfl, e1, av_cL_r, Option.bind_some, is_137 w1, o_32]
    dsimp only
    rw [show ev X (d + 15) 372 [vr (some 137), vi (nI e), vi (nI (lfS n c p S cm (fsP n c p S W ch) e)), vi (oI (fsS (10 * plN n c p S W ch (4 - e) (lfS n c p S cm (fsP n c p S W ch) e)) (bwV n c p S W ch (plN n c p S W ch (4 - e)) (4 - e) (lfS n c p S cm (fsP n c p S W ch) e)) 4).1)] h1 = av_rI (nI (lfS n c p S cm (fsP n c p S W ch) (e + 1))) h1 from e2, av_cI_r, Option.bind_some, nI_1]
    exact e3
theorem sh_1 {h0 : av_H} (P0 : PD n c p S W ch h0) (D0 : CD cm h0) : ∀ m e h, e + m = 5 → WF h → off false [189] [(137, 0)] h0 h → ∃ h', WF h' ∧ off false [189] [(137, 0)] h0 h' ∧ bd X (d + 15) 374 30 [(0, vr (some 137)), (1, vi (nI 1)), (2, vi (nI (2 ^ n - 1))), (3, vi (nI (lfS n c p S cm (fsF (brS (rV n c p S W ch) 3125).1) e))), (4, vi (nI e))] [] h = av_rI (nI (wsN n W (nd (2 ^ n - 1) (lfS n c p S cm (fsF (brS (rV n c p S W ch) 3125).1) 5)))) h'
  | 0, e, h, he, w, O => by
    obtain rfl : e = 5 := by omega
    have P := P0.fr (O.fr (by decide))
    have pn : 2 ^ n ≤ 256 := Nat.pow_le_pow_right (n := 2) (by decide) P.1.1
    have p0 := Nat.two_pow_pos n
    refine ⟨h, w, O, ?_⟩
    rw [b_374_30, if_neg (show ¬ nI 5 < 5 by decide), is_137 w, nb_andn, s_worth w P.1 P.2.2.1 (nd_lt (n := 8) (by omega)), av_cL_r, Option.bind_some, lN_32]
  | m + 1, e, h, he, w, O => by
    have P := P0.fr (O.fr (by decide))
    have pn : 2 ^ n ≤ 256 := Nat.pow_le_pow_right (n := 2) (by decide) P.1.1
    have ll := lfS_lt (n := n) (c := c) (p := p) (S := S) (cm := cm) (o := fsF (brS (rV n c p S W ch) 3125).1) e
    have e1 := s_fixed (X := X) (d := d + 6) (k := 2 + e) w P (by omega)
    rw [fxA, if_neg (by omega), show 2 + e - 2 = e by omega, ← fsF_o (lf := lfS n c p S cm (fsF (brS (rV n c p S W ch) 3125).1) e)] at e1
    have w1 : WF (th h) := w
    have O1 : off false [189] [(137, 0)] h0 (th h) := agr.uI rfl O
    have P1 := P0.fr (O1.fr (by decide))
    have e2 := s_beh (X := X) (d := d + 12) (e := e) (o := fsF (brS (rV n c p S W ch) 3125).1 e (lfS n c p S cm (fsF (brS (rV n c p S W ch) 3125).1) e)) w1 P1.R (D0.fr (O1.fr (by decide))) (by omega) (show lfS n c p S cm (fsF (brS (rV n c p S W ch) 3125).1) e < 256 by omega) fsF_lt
    obtain ⟨h2, w2, O2, e3⟩ := sh_1 P0 D0 m (e + 1) (th h) (by omega) w1 O1
    refine ⟨h2, w2, O2, ?_⟩
    rw [b_374_30, if_pos (show nI e < 5 from nI_lt (b := 5) (by omega) (by omega)), if_neg (show ¬ nI 1 = 0 by decide), is_137 w, show (2 : Int32) = nI 2 from rfl, nI_add, e1, av_cL_r, Option.bind_some, is_137 w1, o_32, e2, av_cI_r, Option.bind_some, nI_1]
    exact e3
theorem hindsight_ok (T : XT X) (w : WF h) (P : PD n c p S W ch h) (hL : h.1.length ≤ 1000000) (K : KN n c p S W ch h) (F : FX n c p S W ch h) (D : CD cm h) (G : CMk n c p S W cm h) (q : Int32) : ∃ v h1 h2, ev X (d + 16) 157 [vr (some 0), vi q] h = av_rI v h1 ∧ ev X (d + 16) 374 [vr (some 137), vi q] h1 = av_rI v h2 ∧ WF h2 ∧ KN n c p S W ch h2 ∧ FX n c p S W ch h2 ∧ CMk n c p S W cm h2 ∧ off false [52, 53, 54, 55, 189] [(46, 1), (46, 2), (46, 3), (46, 14), (46, 15), (137, 0)] h h2 := by
  have O := P.1
  have n8 := O.1
  have pn : 2 ^ n ≤ 256 := Nat.pow_le_pow_right (n := 2) (by decide) n8
  have p0 := Nat.two_pow_pos n
  cases q1 : rg q 0 2 with
  | false =>
    have n0 : ¬ q = 0 := fun z => by rw [z] at q1; exact absurd q1 (by decide)
    have n1 : ¬ q = 1 := fun z => by rw [z] at q1; exact absurd q1 (by decide)
    have n2 : ¬ q = 2 := fun z => by rw [z] at q1; exact absurd q1 (by decide)
    refine ⟨-1, h, th h, ?_, ?_, w, K.fr (agr.uI rfl agr.rfl), F.fr (agr.uI rfl agr.rfl), G.fr (agr.uI rfl agr.rfl), agr.uI rfl agr.rfl⟩
    · rw [e_157, b_157_0, if_neg n0, if_neg n1, if_neg n2]
    · rw [e_374, b_374_0, pI_137 w, th_e, s_within', tI_0, tI_2, q1, if_pos (show bI false = 0 from rfl)]
  | true =>
    have q1' := q1
    obtain ⟨k, hk, rfl⟩ := rg_nI (b := 2) (by decide) q1
    -- the reference's beginning
    have beg : ∀ h1, WF h1 → PD n c p S W ch h1 → k < 2 → ev X (d + 16) 374 [vr (some 137), vi (nI k)] h1 = bd X (d + 15) 374 30 [(0, vr (some 137)), (1, vi (nI k)), (2, vi (nI (2 ^ n - 1))), (3, vi (nI (2 ^ n - 1))), (4, vi (nI 0))] [] (th h1) := fun h1 w1 P1 k2 => by
      have wt : WF (th h1) := w1
      have e64 : (th h1).2.1 137 64 = nI n := by rw [th_k (by decide)]; exact P1.2.2.1.1
      rw [e_374, b_374_0, pI_137 w1, th_e, s_within', tI_0, tI_2, q1', if_neg (show ¬ bI true = 0 by decide), gIv_137_64 wt e64, if_neg (show ¬ nI k = 2 from fun y => by have := (nI_eq (b := 2) (by omega) (by omega)).mp y; omega), nb_sh1 n (by omega), nI_prd p0]
      rfl
    match k, hk with
    | 0, _ =>
      obtain ⟨h1, K1, e1⟩ := wp_lp (X := X) (d := d) (h0 := h) T (P.C hL) D 5 0 h (by omega) ⟨w, agr.rfl, rfl, K⟩
      have P1 : PD n c p S W ch h1 := P.fr (K1.2.1.fr (by decide))
      have D1 : CD cm h1 := D.fr (K1.2.1.fr (by decide))
      obtain ⟨h2, w2, O2, e2⟩ := sh_0 (X := X) (d := d) (h0 := h1) P1 D1 5 0 (th h1) (by omega) K1.1 (agr.uI rfl agr.rfl)
      refine ⟨_, h1, h2, ?_, (beg h1 K1.1 P1 (by decide)).trans e2, w2, K1.2.2.2.fr (O2.fr (by decide)), (F.fr (K1.2.1.fr (by decide))).fr (O2.fr (by decide)), (G.fr (K1.2.1.fr (by decide))).fr (O2.fr (by decide)), agr.tr (K1.2.1.up (by decide)) (O2.up (by decide))⟩
      rw [e_157, b_157_0, if_pos (show nI 0 = 0 from rfl), gR_0_9 w, is_46 w, e_64, b_64_0, gIv_46_0 w P.2.1.1, nb_sh1 n (by omega), nI_prd p0, show bd X (d + 14) 64 9 [(0, vr (some 46)), (1, vi (nI (2 ^ n - 1))), (2, vi 0)] [] h = _ from e1, av_cI_r, Option.bind_some]
    | 1, _ =>
      obtain ⟨h1, w1, O1, l1, X1, X3, e1⟩ := c_findF (X := X) (d := d + 9) T w hL P F
      have P1 : PD n c p S W ch h1 := P.fr (O1.fr (by decide))
      have D1 : CD cm h1 := D.fr (O1.fr (by decide))
      have bl := brS_lt (v := rV n c p S W ch) 3125 (by decide)
      have lp := wf_lp2 (X := X) (d := d + 10) (cm := cm) T w1 (by rw [l1]; exact hL) O P1.2.1 P1.2.2.2.1.1 P1.2.2.2.2.1.2 D1 bl X3 5 0 (by omega)
      obtain ⟨h2, w2, O2, e2⟩ := sh_1 (X := X) (d := d) (h0 := h1) P1 D1 5 0 (th h1) (by omega) w1 (agr.uI rfl agr.rfl)
      refine ⟨_, h1, h2, ?_, (beg h1 w1 P1 (by decide)).trans e2, w2, (K.fr (O1.fr (by decide))).fr (O2.fr (by decide)), FX.fr (Or.inr ⟨X1, X3⟩) (O2.fr (by decide)), (G.fr (O1.fr (by decide))).fr (O2.fr (by decide)), agr.tr (O1.up (by decide)) (O2.up (by decide))⟩
      rw [e_157, b_157_0, if_neg (show ¬ nI 1 = 0 by decide), if_pos (show nI 1 = 1 from rfl), gR_0_9 w, is_46 w, e_65, b_65_0, is_46 w, e1, av_cV_r, Option.bind_some, gIv_46_0 w1 P1.2.1.1, nb_sh1 n (by omega), nI_prd p0, show bd X (d + 14) 65 11 [(0, vr (some 46)), (1, vi (nI (2 ^ n - 1))), (2, vi 0)] [] h1 = _ from lp, av_cI_r, Option.bind_some]
    | 2, _ =>
      have mb := mF_b (c := c) (cm := cm) O 5 (2 ^ n - 1)
      have rf : ∀ h1, WF h1 → PD n c p S W ch h1 → CD cm h1 → ev X (d + 16) 374 [vr (some 137), vi (nI 2)] h1 = av_rI (nI (mF n c p S W cm 5 (2 ^ n - 1))) (th h1) := fun h1 w1 P1 D1 => by
        have wt : WF (th h1) := w1
        have e64 : (th h1).2.1 137 64 = nI n := by rw [th_k (by decide)]; exact P1.2.2.1.1
        have Pt : PD n c p S W ch (th h1) := P1.fr (agr.uI rfl agr.rfl)
        have sm := s_most (X := X) (d := d + 7) (cm := cm) wt Pt.R (D1.fr (agr.uI rfl agr.rfl)) 5 (Nat.le_refl _) (2 ^ n - 1) (by omega)
        rw [e_374, b_374_0, pI_137 w1, th_e, s_within', tI_0, tI_2, q1', if_neg (show ¬ bI true = 0 by decide), gIv_137_64 wt e64, if_pos (show nI 2 = 2 from rfl), is_137 wt, nb_sh1 n (by omega), nI_prd p0, show ev X (d + 15) 373 [vr (some 137), vi 0, vi (nI (2 ^ n - 1))] (th h1) = av_rL (lN (mF n c p S W cm 5 (2 ^ n - 1))) (th h1) from sm, av_cL_r, Option.bind_some, lN_32]
      have dv : lN (10 ^ 5 * mF n c p S W cm 5 (2 ^ n - 1)) / lN (10 ^ 5) = lN (mF n c p S W cm 5 (2 ^ n - 1)) := by
        rw [pk_lDiv (by omega) (by decide) (by decide), Nat.mul_div_cancel_left _ (by decide)]
      have n5 : ¬ lN (10 ^ 5) = 0 := lN_ne0 (by decide) (by decide)
      by_cases z : h.2.2.1 46 2 = -1
      · obtain ⟨h1, w1, O1, l1, X1, X2, e1⟩ := c_row (X := X) (d := d + 10) (tn := tC2 cm) T w hL O P.2.1 P.2.2.2.1.1 P.2.2.2.2.1.2 (Or.inr rfl) (fun e s he hs => ⟨by rw [tC2]; split <;> omega, (D e s he hs).1⟩)
        rw [best_m, oL] at X2
        have w2 : WF (av_uL h1 46 2 (lN (10 ^ 5 * mF n c p S W cm 5 (2 ^ n - 1)))) := WF_uL w1
        have O2 : off false [53, 54, 55] [(46, 2), (46, 14), (46, 15)] h (av_uL h1 46 2 (lN (10 ^ 5 * mF n c p S W cm 5 (2 ^ n - 1)))) := agr.uL rfl (O1.up (by decide))
        have P2 : PD n c p S W ch (av_uL h1 46 2 (lN (10 ^ 5 * mF n c p S W cm 5 (2 ^ n - 1)))) := P.fr (O2.fr (by decide))
        have D2 : CD cm (av_uL h1 46 2 (lN (10 ^ 5 * mF n c p S W cm 5 (2 ^ n - 1)))) := D.fr (O2.fr (by decide))
        refine ⟨_, _, _, ?_, rf _ w2 P2 D2, WF_uI w2, (K.fr (O2.fr (by decide))).fr (agr.uI rfl agr.rfl), (F.fr (O2.fr (by decide))).fr (agr.uI rfl agr.rfl), CMk.fr (Or.inr uL_eq) (agr.uI rfl agr.rfl), agr.uI rfl (O2.up (by decide))⟩
        rw [e_157, b_157_0, if_neg (show ¬ nI 2 = 0 by decide), if_neg (show ¬ nI 2 = 1 by decide), if_pos (show nI 2 = 2 from rfl), gR_0_9 w, is_46 w, e_67, b_67_0, gL_46_2 w, z, if_pos (show lg_cmp (-1) (-1) = 0 by decide), gR_46_9 w, is_46 w, show ev X (d + 14) 59 [vr (some 46), vr (some 51)] h = av_rV h1 from e1, av_cV_r, Option.bind_some, gL_46_15 w1, X2, pL_46 w1, gL_46_2 w2, uL_eq, show (5 : Int32) = nI 5 from rfl, T.ld (by rw [show (av_uL h1 46 2 (lN (10 ^ 5 * mF n c p S W cm 5 (2 ^ n - 1)))).1 = h1.1 from rfl, l1]; exact hL) (by decide), Option.bind_some, nI_l (by decide), if_neg n5, dv, lN_32, av_cI_r, Option.bind_some]
      · rcases G with y | y
        · exact absurd y z
        · have ne : ¬ lg_cmp (lN (10 ^ 5 * mF n c p S W cm 5 (2 ^ n - 1))) (-1) = 0 := fun u => by
            rw [lg_cmp_eq] at u
            exact lN_m1 (by omega) u
          refine ⟨_, h, th h, ?_, rf h w P D, w, K.fr (agr.uI rfl agr.rfl), F.fr (agr.uI rfl agr.rfl), CMk.fr (Or.inr y) (agr.uI rfl agr.rfl), agr.uI rfl agr.rfl⟩
          rw [e_157, b_157_0, if_neg (show ¬ nI 2 = 0 by decide), if_neg (show ¬ nI 2 = 1 by decide), if_pos (show nI 2 = 2 from rfl), gR_0_9 w, is_46 w, e_67, b_67_0, gL_46_2 w, y, if_neg ne, gL_46_2 w, y, show (5 : Int32) = nI 5 from rfl, T.ld hL (by decide), Option.bind_some, nI_l (by decide), if_neg n5, dv, lN_32, av_cI_r, Option.bind_some]
    | _ + 3, hk => exact absurd hk (by omega)
end
