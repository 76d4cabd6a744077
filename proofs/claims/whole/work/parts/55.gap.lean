/-! gap, clashes -/
section
variable {X : av_X} {d : Nat} {h : av_H}
theorem c_dsd {i M : Nat} {D : Nat → Nat} (w : WF h) (hi : i < 60) (P : dpc h i D M) (b1 : D 10 ≤ D 4) (b2 : D 11 ≤ D 4) (p : Int32) : ev X (d + 1) 5 [vr (some (77 + i)), vi p] h = av_rI (nI (if nI (D 8) = p then D 4 - D 10 else D 4 - D 11)) h := by
  have hD := P.1
  by_cases q : nI (D 8) = p <;> simp (disch := first | ((repeat (first | with_reducible apply WF_uI | with_reducible apply WF_uL | with_reducible apply WF_th | with_reducible apply WF_fillL | with_reducible apply WF_fgt)); with_reducible assumption) | omega | (simp only [uI_1, uL_1, th_1, uI_R, uL_R]; with_reducible assumption)) only [e_5, b_5_0, ↓dr_g (D := D), q, ↓reduceIte, i10, av_cI_r, av_cL_r, av_cV_r, Option.bind_some, ↓zb_0, ↓zb_1, ↓zb_b, pk_sub]
theorem c_dsd' {i M : Nat} {D : Nat → Nat} (w : WF h) (hi : i < 60) (P : dpc h i D M) (b1 : D 10 ≤ D 4) (b2 : D 11 ≤ D 4) (p : Int32) {β : Type} (Kc : Int32 × av_H → Option β) : (av_cI (ev X (d + 1) 5 [vr (some (77 + i)), vi p] h)).bind Kc = Kc (nI (if nI (D 8) = p then D 4 - D 10 else D 4 - D 11), h) := by rw [c_dsd w hi P b1 b2 p]; rfl
theorem gap_lp {g : av_H} {m : Nat} {D : Nat → Nat → Nat} {M N : Nat → Nat} (E : EN h g m D M N) (p : Int32) (hp : rg p 0 9 = true) {d' : Nat} : ∀ n i (v : Int32), i + n = m → ¬ v < -1 → ∃ r,
    bd X (d + 3) 177 9 [(0, vr (some 0)), (1, vi p), (2, vi v), (3, vi (nI i))] [] h = av_rI r h ∧
    bd X (d' + 2) 365 7 [(0, vr (some 137)), (1, vi p), (2, vi v), (3, vi (nI i))] [] g = av_rI r g
  | 0, i, v, hi, _ => by
    obtain ⟨w, w', Bd, C, R⟩ := E
    have h60 := Bd.1
    refine ⟨v, ?_, ?_⟩
    · rw [b_177_9, gIv_0_17 w C.1, if_neg (nI_nlt (by omega) (by omega))]
    · rw [b_365_7, gIv_137_45 w' R.1, if_neg (nI_nlt (by omega) (by omega))]
  | n + 1, i, v, hi, hv => by
    have ih := fun v => gap_lp E p hp (d' := d') n (i + 1) v (by omega)
    obtain ⟨w, w', Bd, ⟨c17, C⟩, ⟨r45, R⟩⟩ := E; have h60 := Bd.1; have lt : i < m := (by omega); have dB := Bd.2.1 i (by omega); have P := C i (by omega); have hD := P.1; have Q := R i (by omega); obtain ⟨p0, p1, p2, p4, p5, p6, p7, p8, p9, p12, p15, p16, p17, p13, p14, p10, p11, p18⟩ := R i (by omega)
    obtain ⟨-, -, -, -, b4, -, -, -, -, b8, b9, -, ⟨b10, b11⟩, -⟩ := dB
    rcases bdi (prs (D i) p) with q1 | q1
    · obtain ⟨r, e1, e2⟩ := ih v hv
      obtain ⟨z1, z2⟩ : ¬ nI (D i 8) = p ∧ ¬ nI (D i 9) = p := by simpa [prs] using q1
      refine ⟨r, ?_, ?_⟩
      · rw [b_177_9]
        simp (disch := first | ((repeat (first | with_reducible apply WF_uI | with_reducible apply WF_uL | with_reducible apply WF_th | with_reducible apply WF_fillL | with_reducible apply WF_fgt)); with_reducible assumption) | omega | (simp only [uI_1, uL_1, th_1, uI_R, uL_R]; with_reducible assumption)) only [↓gIv_0_17 (v := nI m), nI_ltI, lt, ↓gR_0_13, ↓dr_l, ↓dr_is, ↓dr_g (D := D i), ↓c_hasP' (D := D i) (M := M i), ↓c_within', ↓reduceIte, i10, av_cI_r, av_cL_r, av_cV_r, Option.bind_some, ↓zb_0, ↓zb_1, ↓zb_b, bI_0, Bool.true_eq_false, nI_1,  q1, e1]
      · rw [b_365_7]
        simp (disch := first | ((repeat (first | with_reducible apply WF_uI | with_reducible apply WF_uL | with_reducible apply WF_th | with_reducible apply WF_fillL | with_reducible apply WF_fgt)); with_reducible assumption) | omega | (simp only [uI_1, uL_1, th_1, uI_R, uL_R]; with_reducible assumption)) only [↓gIv_137_45 (v := nI m), nI_ltI, lt, ↓is_137, ↓s_isIn' (D := D i) (N := N i), ↓s_within', ↓reduceIte, i10, av_cI_r, av_cL_r, av_cV_r, Option.bind_some, ↓zb_0, ↓zb_1, ↓zb_b, bI_0, Bool.true_eq_false, nI_1, Int32.add_zero, p0, p1, p2, p4, p5, p6, p7, p8, p9, p12, p15, p16, p17, p13, p14, p10, p11,  ↓s_isPerson', hp, ↓gR_137_53, ↓gR_137_54, ↓ld_175, ↓ld_176, z1, z2, b_365_37, hv, e2]
    · have key : ∀ k, k < 100 → (∃ r, bd X (d + 3) 177 9 [(0, vr (some 0)), (1, vi p), (2, vi (if v < nI k then nI k else v)), (3, vi (nI (i + 1)))] [] h = av_rI r h ∧ bd X (d' + 2) 365 37 [(0, vr (some 137)), (1, vi p), (2, vi v), (3, vi (nI i))] [vi (nI k)] g = av_rI r g) := fun k hk => by
        by_cases z : v < nI k
        · obtain ⟨r, e1, e2⟩ := ih (nI k) (fun q => by rw [i_lt, toI_nI (by omega)] at q; have h1 : (-1 : Int32).toInt = -1 := by decide
                                                       omega)
          refine ⟨r, by rw [if_pos z]; exact e1, ?_⟩
          rw [b_365_37, if_pos z, nI_1]
          exact e2
        · obtain ⟨r, e1, e2⟩ := ih v hv
          refine ⟨r, by rw [if_neg z]; exact e1, ?_⟩
          rw [b_365_37, if_neg z, nI_1]
          exact e2
      obtain ⟨r, e1, e2⟩ := key (if nI (D i 8) = p then D i 4 - D i 10 else D i 4 - D i 11) (by split <;> omega)
      refine ⟨r, ?_, ?_⟩
      · rw [b_177_9, ← e1]
        simp (disch := first | ((repeat (first | with_reducible apply WF_uI | with_reducible apply WF_uL | with_reducible apply WF_th | with_reducible apply WF_fillL | with_reducible apply WF_fgt)); with_reducible assumption) | omega | (simp only [uI_1, uL_1, th_1, uI_R, uL_R]; with_reducible assumption)) only [↓gIv_0_17 (v := nI m), nI_ltI, lt, ↓gR_0_13, ↓dr_l, ↓dr_is, ↓dr_g (D := D i), ↓c_hasP' (D := D i) (M := M i), ↓c_within', ↓reduceIte, i10, av_cI_r, av_cL_r, av_cV_r, Option.bind_some, ↓zb_0, ↓zb_1, ↓zb_b, bI_0, Bool.true_eq_false, nI_1,  q1, ↓c_dsd' (D := D i) (M := M i), ↓c_max']
      · rw [b_365_7, ← e2]
        by_cases z1 : nI (D i 8) = p
        · simp (disch := first | ((repeat (first | with_reducible apply WF_uI | with_reducible apply WF_uL | with_reducible apply WF_th | with_reducible apply WF_fillL | with_reducible apply WF_fgt)); with_reducible assumption) | omega | (simp only [uI_1, uL_1, th_1, uI_R, uL_R]; with_reducible assumption)) only [↓gIv_137_45 (v := nI m), nI_ltI, lt, ↓is_137, ↓s_isIn' (D := D i) (N := N i), ↓s_within', ↓reduceIte, i10, av_cI_r, av_cL_r, av_cV_r, Option.bind_some, ↓zb_0, ↓zb_1, ↓zb_b, bI_0, Bool.true_eq_false, nI_1, Int32.add_zero, p0, p1, p2, p4, p5, p6, p7, p8, p9, p12, p15, p16, p17, p13, p14, p10, p11,  ↓s_isPerson', hp, ↓gR_137_53, ↓gR_137_61, ↓ld_175, ↓ld_183, z1]
        · have z2 : nI (D i 9) = p := by simpa [prs, z1] using q1
          simp (disch := first | ((repeat (first | with_reducible apply WF_uI | with_reducible apply WF_uL | with_reducible apply WF_th | with_reducible apply WF_fillL | with_reducible apply WF_fgt)); with_reducible assumption) | omega | (simp only [uI_1, uL_1, th_1, uI_R, uL_R]; with_reducible assumption)) only [↓gIv_137_45 (v := nI m), nI_ltI, lt, ↓is_137, ↓s_isIn' (D := D i) (N := N i), ↓s_within', ↓reduceIte, i10, av_cI_r, av_cL_r, av_cV_r, Option.bind_some, ↓zb_0, ↓zb_1, ↓zb_b, bI_0, Bool.true_eq_false, nI_1, Int32.add_zero, p0, p1, p2, p4, p5, p6, p7, p8, p9, p12, p15, p16, p17, p13, p14, p10, p11,  ↓s_isPerson', hp, ↓gR_137_53, ↓gR_137_54, ↓gR_137_62, ↓ld_175, ↓ld_176, ↓ld_184, z1, z2]
theorem gap_ok (w : WF h) (Dp : J_dp h) (p : Int32) : ∃ v h1 h2, ev X (d + 5) 177 [vr (some 0), vi p] h = av_rI v h1 ∧ ev X (d + 5) 365 [vr (some 137), vi p] h1 = av_rI v h2 ∧ WF h2 ∧ off false [] [(137, 0)] h h2 := by
  obtain ⟨m, D, M, N, E, W⟩ := Dp.EN w
  cases ok : rg p 0 9 with
  | false =>
    refine ⟨-1, h, th h, ?_, ?_, w, agr.uI rfl agr.rfl⟩
    · simp (disch := first | ((repeat (first | with_reducible apply WF_uI | with_reducible apply WF_uL | with_reducible apply WF_th | with_reducible apply WF_fillL | with_reducible apply WF_fgt)); with_reducible assumption) | omega | (simp only [uI_1, uL_1, th_1, uI_R, uL_R]; with_reducible assumption)) only [e_177, b_177_0, ↓c_isPerson', ↓reduceIte, i10, av_cI_r, av_cL_r, av_cV_r, Option.bind_some, ↓zb_0, ↓zb_1, ↓zb_b, bI_0, ok]
    · obtain ⟨-, w', Bd, C, R⟩ := E
      have h60 := Bd.1
      rw [e_365, b_365_0, pI_137 w, b_365_7, th_e, gIv_137_45 w' R.1]
      by_cases z : m = 0
      · rw [z, if_neg (by decide)]
      · rw [if_pos (show (0 : Int32) < nI m from nI_lt (a := 0) (by omega) (by omega)), s_isPerson', ok, if_pos (show bI false = 0 from rfl)]
  | true =>
    obtain ⟨v, e1, e2⟩ := gap_lp (X := X) (d := d + 1) (d' := d + 2) E p ok m 0 (-1) (by omega) (by decide)
    refine ⟨v, h, th h, ?_, ?_, w, agr.uI rfl agr.rfl⟩
    · simp (disch := first | ((repeat (first | with_reducible apply WF_uI | with_reducible apply WF_uL | with_reducible apply WF_th | with_reducible apply WF_fillL | with_reducible apply WF_fgt)); with_reducible assumption) | omega | (simp only [uI_1, uL_1, th_1, uI_R, uL_R]; with_reducible assumption)) only [e_177, b_177_0, ↓c_isPerson', ↓reduceIte, i10, av_cI_r, av_cL_r, av_cV_r, Option.bind_some, ↓zb_0, ↓zb_1, ↓zb_b, bI_0, ok, Bool.true_eq_false]
      exact e1
    · rw [e_365, b_365_0, pI_137 w]
      exact e2
/-- a film is where and when a drop is -/
def flP (h : av_H) (t s e k H : Nat) (i : Nat) : Bool := decide (h.2.1 204 i = nI t) && (decide (h.2.1 205 i = nI s) && (rg (nI e) (h.2.1 206 i).toInt (h.2.1 207 i).toInt && (!decide (h.2.1 209 i < nI k) && decide (h.2.1 208 i < nI (k + H)))))
theorem s_film_lp (w : WF h) {n0 : Nat} (hm : h.2.1 137 85 = nI n0) (hN : n0 ≤ 12) (t s e k H : Nat) : ∀ n i b, i + n = n0 → bd X (d + 1) 349 4 [(0, vr (some 137)), (1, vi (nI t)), (2, vi (nI s)), (3, vi (nI e)), (4, vi (nI k)), (5, vi (nI H)), (6, vi (bI b)), (7, vi (nI i))] [] h = av_rI (bI (b || anyN n i (flP h t s e k H))) h
  | 0, i, b, hi => by
    rw [b_349_4, gIv_137_85 w hm, if_neg (nI_nlt (by omega) (by omega)), zb_b, anyN, Bool.or_false]
  | n + 1, i, b, hi => by
    have ih := fun b => s_film_lp w hm hN t s e k H n (i + 1) b (by omega)
    have i0 := ih false
    have i1 := ih true
    rw [bI_f, Bool.false_or] at i0
    rw [bI_t, Bool.true_or, bI_t] at i1
    have e34 : ∀ c : Bool, bd X (d + 1) 349 34 [(0, vr (some 137)), (1, vi (nI t)), (2, vi (nI s)), (3, vi (nI e)), (4, vi (nI k)), (5, vi (nI H)), (6, vi (bI b)), (7, vi (nI i))] [vi (bI c)] h = av_rI (bI (b || ((c && (!decide (h.2.1 209 i < nI k) && decide (h.2.1 208 i < nI (k + H)))) || anyN n (i + 1) (flP h t s e k H)))) h := fun c => by
      rw [b_349_34]
      cases b with
      | true =>
        rw [if_neg (show ¬ bI true = 0 by decide), nI_1, i1, Bool.true_or]
        rfl
      | false =>
        rw [if_pos (show bI false = 0 from rfl), nI_1, nI_add, i0, i1, Bool.false_or]
        cases c with
        | false => rw [if_pos (show bI false = 0 from rfl), Bool.false_and, Bool.false_or]
        | true =>
          rw [if_neg (show ¬ bI true = 0 by decide), gR_137_91 w, ld_209 w (by omega), gR_137_90 w, ld_208 w (by omega), Bool.true_and]
          by_cases z1 : h.2.1 209 i < nI k
          · rw [if_pos z1, decide_eq_true z1]
            rfl
          · rw [if_neg z1, decide_eq_false z1, Bool.not_false, Bool.true_and]
            by_cases z2 : h.2.1 208 i < nI (k + H)
            · rw [if_pos z2, decide_eq_true z2, Bool.true_or]
              rfl
            · rw [if_neg z2, decide_eq_false z2, Bool.false_or]
    have f0 := e34 false
    have f1 := e34 true
    rw [bI_f, Bool.false_and, Bool.false_or] at f0
    rw [bI_t, Bool.true_and] at f1
    rw [b_349_4, gIv_137_85 w hm, if_pos (nI_lt (by omega) (by omega)), gR_137_86 w, ld_204 w (by omega), b_349_33, f0, anyN, flP]
    by_cases z1 : h.2.1 204 i = nI t
    · rw [if_pos z1, decide_eq_true z1, Bool.true_and, gR_137_87 w, ld_205 w (by omega)]
      by_cases z2 : h.2.1 205 i = nI s
      · rw [if_pos z2, decide_eq_true z2, Bool.true_and, gR_137_88 w, ld_206 w (by omega), gR_137_89 w, ld_207 w (by omega), s_within']
        cases z3 : rg (nI e) (h.2.1 206 i).toInt (h.2.1 207 i).toInt with
        | false =>
          rw [if_pos (show bI false = 0 from rfl), Bool.false_and, Bool.false_or]
          dsimp only
          rw [b_349_33, f0]
        | true =>
          rw [if_neg (show ¬ bI true = 0 by decide), f1, Bool.true_and]
      · rw [if_neg z2, decide_eq_false z2, Bool.false_and, Bool.false_or]
    · rw [if_neg z1, decide_eq_false z1, Bool.false_and, Bool.false_or]
theorem s_film {n0 : Nat} (w : WF h) (hm : h.2.1 137 85 = nI n0) (hN : n0 ≤ 12) (t s e k H : Nat) : ev X (d + 2) 349 [vr (some 137), vi (nI t), vi (nI s), vi (nI e), vi (nI k), vi (nI H)] h = av_rI (bI (anyN n0 0 (flP h t s e k H))) h := by
  rw [e_349, b_349_0]
  have := s_film_lp (X := X) (d := d) w hm hN t s e k H n0 0 false (by omega)
  rw [Bool.false_or] at this
  exact this
theorem s_film' {n0 : Nat} (w : WF h) (hm : h.2.1 137 85 = nI n0) (hN : n0 ≤ 12) (t s e k H : Nat) {β : Type} (Kc : Int32 × av_H → Option β) : (av_cI (ev X (d + 2) 349 [vr (some 137), vi (nI t), vi (nI s), vi (nI e), vi (nI k), vi (nI H)] h)).bind Kc = Kc (bI (anyN n0 0 (flP h t s e k H)), h) := by rw [s_film w hm hN t s e k H]; rfl
theorem c_film_lp (w : WF h) {n0 i M : Nat} {D : Nat → Nat} (hm : h.2.1 15 5 = nI n0) (hN : n0 ≤ 12) (hi : i < 60) (P : dpc h i D M) (hH : D 6 ≤ 24) : ∀ n k, k + n = D 6 → bd X (d + 3) 215 2 [(0, vr (some 0)), (1, vr (some (77 + i))), (2, vi (nI k))] [] h = av_rI (bI (anyN n k (fun k => anyN n0 0 (spP_15 h (nI (D 0 * 4 + D 1)) (nI (D 4)) (nI (D 5 + k)))))) h
  | 0, k, hk => by
    rw [b_215_2, dr_g w hi P.1 (by decide), if_neg (nI_nlt (by omega) (by omega))]
    rfl
  | n + 1, k, hk => by
    have ih := c_film_lp w hm hN hi P hH n (k + 1) (by omega)
    rw [b_215_2, dr_g w hi P.1 (by decide), if_pos (nI_lt (by omega) (by omega)), gR_0_4 w, dr_g w hi P.1 (by decide), dr_g w hi P.1 (by decide), c_sideP', dr_g w hi P.1 (by decide), dr_g w hi P.1 (by decide), is_15 w, nI_add, cov_15' w hm hN, nI_1, anyN]
    cases anyN n0 0 (spP_15 h (nI (D 0 * 4 + D 1)) (nI (D 4)) (nI (D 5 + k))) with
    | true => rfl
    | false =>
      rw [Bool.false_or]
      exact ih
theorem film_eq {g : av_H} {n0 : Nat} {D : Nat → Nat} (F : J_fi h) (G : ∀ a, 204 ≤ a → a ≤ 209 → g.2.1 a = h.2.1 a) (hm : h.2.1 15 5 = nI n0) (hN : n0 ≤ 12) (b0 : D 0 < 6) (b1 : D 1 < 4) (b5 : D 5 + D 6 ≤ 24) (b6 : 1 ≤ D 6) : anyN (D 6) 0 (fun k => anyN n0 0 (spP_15 h (nI (D 0 * 4 + D 1)) (nI (D 4)) (nI (D 5 + k)))) = anyN n0 0 (flP g (D 0) (D 1) (D 4) (D 5) (D 6)) := by
  obtain ⟨m, f1, f2, f3, f4⟩ := F
  obtain rfl : m = n0 := (nI_eq (by omega) (by omega)).mp (f2.symm.trans hm)
  rw [Bool.eq_iff_iff, anyN_iff, anyN_iff]
  have g4 := G 204 (by decide) (by decide)
  have g5 := G 205 (by decide) (by decide)
  have g6 := G 206 (by decide) (by decide)
  have g7 := G 207 (by decide) (by decide)
  have g8 := G 208 (by decide) (by decide)
  have g9 := G 209 (by decide) (by decide)
  have nn : ∀ a k : Nat, a < 1000 → k < 1000 → ((nI a < nI k) ↔ a < k) := fun a k x y => nI_ltI (by omega) (by omega)
  constructor
  · rintro ⟨k, -, k2, k3⟩
    obtain ⟨i, -, i2, i3⟩ := (anyN_iff _ _).mp k3
    obtain ⟨⟨t, s, t1, t2, t3, t4, t5⟩, u1, u2, a, b, v1, v2, v3, v4, v5, v6⟩ := f4 i (by omega)
    simp only [spP_15, Bool.and_eq_true, decide_eq_true_eq, t3, v3, v5, rg, toI_nI (show D 5 + k < 2147483648 by omega), toI_nI (show a < 2147483648 by omega), toI_nI (show b < 2147483648 by omega)] at i3
    obtain ⟨⟨z1, z2⟩, z3⟩ := i3
    have z1 := (nI_eq (by omega) (by omega)).mp z1
    refine ⟨i, Nat.zero_le _, i2, ?_⟩
    simp only [flP, g4, g5, g6, g7, g8, g9, t4, t5, u1, u2, v4, v6, Bool.and_eq_true, decide_eq_true_eq, Bool.not_eq_true', decide_eq_false_iff_not]
    refine ⟨congrArg nI (by omega), congrArg nI (by omega), ?_, ?_, ?_⟩
    · simp only [rg, decide_eq_true_eq]
      exact z2
    · rw [nn _ _ (by omega) (by omega)]
      omega
    · rw [nn _ _ (by omega) (by omega)]
      omega
  · rintro ⟨i, -, i2, i3⟩
    obtain ⟨⟨t, s, t1, t2, t3, t4, t5⟩, u1, u2, a, b, v1, v2, v3, v4, v5, v6⟩ := f4 i (by omega)
    simp only [flP, g4, g5, g6, g7, g8, g9, t4, t5, u1, u2, v4, v6, Bool.and_eq_true, decide_eq_true_eq, Bool.not_eq_true', decide_eq_false_iff_not] at i3
    obtain ⟨z1, z2, z3, z4, z5⟩ := i3
    have z1 := (nI_eq (by omega) (by omega)).mp z1
    have z2 := (nI_eq (by omega) (by omega)).mp z2
    rw [nn _ _ (by omega) (by omega)] at z4 z5
    refine ⟨if D 5 ≤ a then a - D 5 else 0, Nat.zero_le _, by split <;> omega, (anyN_iff _ _).mpr ⟨i, Nat.zero_le _, i2, ?_⟩⟩
    simp only [rg, decide_eq_true_eq] at z3
    have e5 : D 5 + (if D 5 ≤ a then a - D 5 else 0) < 48 := by split <;> omega
    simp only [spP_15, Bool.and_eq_true, decide_eq_true_eq, t3, v3, v5, rg, toI_nI (show D 5 + (if D 5 ≤ a then a - D 5 else 0) < 2147483648 by omega), toI_nI (show a < 2147483648 by omega), toI_nI (show b < 2147483648 by omega)]
    refine ⟨⟨congrArg nI (by omega), z3⟩, ?_⟩
    split <;> omega
theorem c_film {n0 i M : Nat} {D : Nat → Nat} (w : WF h) (F : J_fi h) (hm : h.2.1 15 5 = nI n0) (hN : n0 ≤ 12) (hi : i < 60) (P : dpc h i D M) (b0 : D 0 < 6) (b1 : D 1 < 4) (b5 : D 5 + D 6 ≤ 24) (b6 : 1 ≤ D 6) : ev X (d + 4) 215 [vr (some 0), vr (some (77 + i))] h = av_rI (bI (anyN n0 0 (flP h (D 0) (D 1) (D 4) (D 5) (D 6)))) h := by
  rw [e_215, b_215_0, ← film_eq (g := h) F (fun _ _ _ => rfl) hm hN b0 b1 b5 b6]
  exact c_film_lp w hm hN hi P (by omega) (D 6) 0 (by omega)
theorem c_film' {n0 i M : Nat} {D : Nat → Nat} (w : WF h) (F : J_fi h) (hm : h.2.1 15 5 = nI n0) (hN : n0 ≤ 12) (hi : i < 60) (P : dpc h i D M) (b0 : D 0 < 6) (b1 : D 1 < 4) (b5 : D 5 + D 6 ≤ 24) (b6 : 1 ≤ D 6) {β : Type} (Kc : Int32 × av_H → Option β) : (av_cI (ev X (d + 4) 215 [vr (some 0), vr (some (77 + i))] h)).bind Kc = Kc (bI (anyN n0 0 (flP h (D 0) (D 1) (D 4) (D 5) (D 6))), h) := by rw [c_film w F hm hN hi P b0 b1 b5 b6]; rfl
theorem clash_lp {g : av_H} {m : Nat} {D : Nat → Nat → Nat} {M N : Nat → Nat} (E : EN h g m D M N) (F : J_fi h) (G : ∀ a, 204 ≤ a → a ≤ 209 → g.2.1 a = h.2.1 a) {n0 : Nat} (hm : h.2.1 15 5 = nI n0) (hg : g.2.1 137 85 = nI n0) (hN : n0 ≤ 12) (t : Nat) (ht : t < 6) {d' : Nat} : ∀ n i (v : Int32), i + n = m → ∃ r,
    bd X (d + 4) 168 10 [(0, vr (some 0)), (1, vi (nI t)), (2, vi v), (3, vi (nI i))] [] h = av_rI r h ∧
    bd X (d' + 2) 350 13 [(0, vr (some 137)), (1, vi (nI t)), (2, vi v), (3, vi (nI i))] [] g = av_rI r g
  | 0, i, v, hi => by
    obtain ⟨w, w', Bd, C, R⟩ := E
    have h60 := Bd.1
    refine ⟨v, ?_, ?_⟩
    · rw [b_168_10, gIv_0_17 w C.1, if_neg (nI_nlt (by omega) (by omega))]
    · rw [b_350_13, gIv_137_45 w' R.1, if_neg (nI_nlt (by omega) (by omega))]
  | n + 1, i, v, hi => by
    have ih := fun v => clash_lp E F G hm hg hN t ht (d' := d') n (i + 1) v (by omega)
    obtain ⟨w, w', Bd, ⟨c17, C⟩, ⟨r45, R⟩⟩ := E; have h60 := Bd.1; have lt : i < m := (by omega); have dB := Bd.2.1 i (by omega); have P := C i (by omega); have hD := P.1; have Q := R i (by omega); obtain ⟨p0, p1, p2, p4, p5, p6, p7, p8, p9, p12, p15, p16, p17, p13, p14, p10, p11, p18⟩ := R i (by omega)
    obtain ⟨b0, b1, -, -, b4, -, ⟨b6, b5⟩, -⟩ := dB
    by_cases q0 : D i 0 = t
    · have q0' : nI (D i 0) = nI t := congrArg nI q0
      have fe : anyN n0 0 (flP g t (D i 1) (D i 4) (D i 5) (D i 6)) = anyN n0 0 (flP h (D i 0) (D i 1) (D i 4) (D i 5) (D i 6)) := by
        rw [← q0, ← film_eq F G hm hN b0 b1 b5 b6, film_eq (g := h) F (fun _ _ _ => rfl) hm hN b0 b1 b5 b6]
      rcases bdi (anyN n0 0 (flP h (D i 0) (D i 1) (D i 4) (D i 5) (D i 6))) with q1 | q1
      · obtain ⟨r, e1, e2⟩ := ih v
        refine ⟨r, ?_, ?_⟩
        · rw [b_168_10]
          simp (disch := first | ((repeat (first | with_reducible apply WF_uI | with_reducible apply WF_uL | with_reducible apply WF_th | with_reducible apply WF_fillL | with_reducible apply WF_fgt)); with_reducible assumption) | omega | (simp only [uI_1, uL_1, th_1, uI_R, uL_R]; with_reducible assumption)) only [↓gIv_0_17 (v := nI m), nI_ltI, lt, ↓gR_0_13, ↓dr_l, ↓dr_is, ↓dr_g (D := D i), ↓c_hasP' (D := D i) (M := M i), ↓c_within', ↓reduceIte, i10, av_cI_r, av_cL_r, av_cV_r, Option.bind_some, ↓zb_0, ↓zb_1, ↓zb_b, bI_0, Bool.true_eq_false, nI_1,  q0', ↓is_0, ↓c_film' (n0 := n0) (D := D i) (M := M i), q1, e1]
        · rw [b_350_13]
          simp (disch := first | ((repeat (first | with_reducible apply WF_uI | with_reducible apply WF_uL | with_reducible apply WF_th | with_reducible apply WF_fillL | with_reducible apply WF_fgt)); with_reducible assumption) | omega | (simp only [uI_1, uL_1, th_1, uI_R, uL_R]; with_reducible assumption)) only [↓gIv_137_45 (v := nI m), nI_ltI, lt, ↓is_137, ↓s_isIn' (D := D i) (N := N i), ↓s_within', ↓reduceIte, i10, av_cI_r, av_cL_r, av_cV_r, Option.bind_some, ↓zb_0, ↓zb_1, ↓zb_b, bI_0, Bool.true_eq_false, nI_1, Int32.add_zero, p0, p1, p2, p4, p5, p6, p7, p8, p9, p12, p15, p16, p17, p13, p14, p10, p11,  ↓gR_137_46, ↓gR_137_47, ↓gR_137_49, ↓gR_137_50, ↓gR_137_51, ↓ld_168, ↓ld_169, ↓ld_171, ↓ld_172, ↓ld_173, q0']
          rw [s_film' w' hg hN, fe, q1, if_pos (show bI false = 0 from rfl)]
          exact e2
      · obtain ⟨r, e1, e2⟩ := ih (v + 1)
        refine ⟨r, ?_, ?_⟩
        · rw [b_168_10]
          simp (disch := first | ((repeat (first | with_reducible apply WF_uI | with_reducible apply WF_uL | with_reducible apply WF_th | with_reducible apply WF_fillL | with_reducible apply WF_fgt)); with_reducible assumption) | omega | (simp only [uI_1, uL_1, th_1, uI_R, uL_R]; with_reducible assumption)) only [↓gIv_0_17 (v := nI m), nI_ltI, lt, ↓gR_0_13, ↓dr_l, ↓dr_is, ↓dr_g (D := D i), ↓c_hasP' (D := D i) (M := M i), ↓c_within', ↓reduceIte, i10, av_cI_r, av_cL_r, av_cV_r, Option.bind_some, ↓zb_0, ↓zb_1, ↓zb_b, bI_0, Bool.true_eq_false, nI_1,  q0', ↓is_0, ↓c_film' (n0 := n0) (D := D i) (M := M i), q1, e1]
        · rw [b_350_13]
          simp (disch := first | ((repeat (first | with_reducible apply WF_uI | with_reducible apply WF_uL | with_reducible apply WF_th | with_reducible apply WF_fillL | with_reducible apply WF_fgt)); with_reducible assumption) | omega | (simp only [uI_1, uL_1, th_1, uI_R, uL_R]; with_reducible assumption)) only [↓gIv_137_45 (v := nI m), nI_ltI, lt, ↓is_137, ↓s_isIn' (D := D i) (N := N i), ↓s_within', ↓reduceIte, i10, av_cI_r, av_cL_r, av_cV_r, Option.bind_some, ↓zb_0, ↓zb_1, ↓zb_b, bI_0, Bool.true_eq_false, nI_1, Int32.add_zero, p0, p1, p2, p4, p5, p6, p7, p8, p9, p12, p15, p16, p17, p13, p14, p10, p11,  ↓gR_137_46, ↓gR_137_47, ↓gR_137_49, ↓gR_137_50, ↓gR_137_51, ↓ld_168, ↓ld_169, ↓ld_171, ↓ld_172, ↓ld_173, q0']
          rw [s_film' w' hg hN, fe, q1, if_neg (show ¬ bI true = 0 by decide)]
          exact e2
    · have q0' : ¬ nI (D i 0) = nI t := fun z => q0 ((nI_eq (by omega) (by omega)).mp z)
      obtain ⟨r, e1, e2⟩ := ih v
      refine ⟨r, ?_, ?_⟩
      · rw [b_168_10]
        simp (disch := first | ((repeat (first | with_reducible apply WF_uI | with_reducible apply WF_uL | with_reducible apply WF_th | with_reducible apply WF_fillL | with_reducible apply WF_fgt)); with_reducible assumption) | omega | (simp only [uI_1, uL_1, th_1, uI_R, uL_R]; with_reducible assumption)) only [↓gIv_0_17 (v := nI m), nI_ltI, lt, ↓gR_0_13, ↓dr_l, ↓dr_is, ↓dr_g (D := D i), ↓c_hasP' (D := D i) (M := M i), ↓c_within', ↓reduceIte, i10, av_cI_r, av_cL_r, av_cV_r, Option.bind_some, ↓zb_0, ↓zb_1, ↓zb_b, bI_0, Bool.true_eq_false, nI_1,  q0', e1]
      · rw [b_350_13]
        simp (disch := first | ((repeat (first | with_reducible apply WF_uI | with_reducible apply WF_uL | with_reducible apply WF_th | with_reducible apply WF_fillL | with_reducible apply WF_fgt)); with_reducible assumption) | omega | (simp only [uI_1, uL_1, th_1, uI_R, uL_R]; with_reducible assumption)) only [↓gIv_137_45 (v := nI m), nI_ltI, lt, ↓is_137, ↓s_isIn' (D := D i) (N := N i), ↓s_within', ↓reduceIte, i10, av_cI_r, av_cL_r, av_cV_r, Option.bind_some, ↓zb_0, ↓zb_1, ↓zb_b, bI_0, Bool.true_eq_false, nI_1, Int32.add_zero, p0, p1, p2, p4, p5, p6, p7, p8, p9, p12, p15, p16, p17, p13, p14, p10, p11,  ↓gR_137_46, ↓ld_168, q0', e2]
theorem clashes_ok (w : WF h) (J : J_tow h) (Dp : J_dp h) (F : J_fi h) (t : Int32) : ∃ v h1 h2, ev X (d + 6) 168 [vr (some 0), vi t] h = av_rI v h1 ∧ ev X (d + 6) 350 [vr (some 137), vi t] h1 = av_rI v h2 ∧ WF h2 ∧ off false [] [(137, 0)] h h2 := by
  cases q1 : told h t with
  | false =>
    refine ⟨-1, h, th h, ?_, ?_, w, agr.uI rfl agr.rfl⟩
    · simp (disch := first | ((repeat (first | with_reducible apply WF_uI | with_reducible apply WF_uL | with_reducible apply WF_th | with_reducible apply WF_fillL | with_reducible apply WF_fgt)); with_reducible assumption) | omega | (simp only [uI_1, uL_1, th_1, uI_R, uL_R]; with_reducible assumption)) only [e_168, b_168_0, ↓is_0, ↓c_isTold', ↓reduceIte, i10, av_cI_r, av_cL_r, av_cV_r, Option.bind_some, ↓zb_0, ↓zb_1, ↓zb_b, bI_0, q1]
    · simp (disch := first | ((repeat (first | with_reducible apply WF_uI | with_reducible apply WF_uL | with_reducible apply WF_th | with_reducible apply WF_fillL | with_reducible apply WF_fgt)); with_reducible assumption) | omega | (simp only [uI_1, uL_1, th_1, uI_R, uL_R]; with_reducible assumption)) only [e_350, b_350_0, ↓pI_137, th_e, ↓is_137, ↓s_isTower', told_th, ↓reduceIte, i10, av_cI_r, av_cL_r, av_cV_r, Option.bind_some, ↓zb_0, ↓zb_1, ↓zb_b, bI_0, q1]
  | true =>
    obtain ⟨t, a, h6, rfl, hj, T⟩ := told_ex J q1
    obtain ⟨m, D, M, N, E, W⟩ := Dp.EN w
    have F0 := F
    obtain ⟨n0, f1, f2, f3, -⟩ := F0
    obtain ⟨v, e1, e2⟩ := clash_lp (X := X) (d := d + 1) (d' := d + 3) E F (fun a x y => th_I (by omega)) f2 (by rw [th_k (by decide)]; exact f3) f1 t h6 m 0 0 (by omega)
    refine ⟨v, h, th h, ?_, ?_, w, agr.uI rfl agr.rfl⟩
    · simp (disch := first | ((repeat (first | with_reducible apply WF_uI | with_reducible apply WF_uL | with_reducible apply WF_th | with_reducible apply WF_fillL | with_reducible apply WF_fgt)); with_reducible assumption) | omega | (simp only [uI_1, uL_1, th_1, uI_R, uL_R]; with_reducible assumption)) only [e_168, b_168_0, ↓is_0, ↓c_isTold', ↓reduceIte, i10, av_cI_r, av_cL_r, av_cV_r, Option.bind_some, ↓zb_0, ↓zb_1, ↓zb_b, bI_0, q1, Bool.true_eq_false]
      exact e1
    · simp (disch := first | ((repeat (first | with_reducible apply WF_uI | with_reducible apply WF_uL | with_reducible apply WF_th | with_reducible apply WF_fillL | with_reducible apply WF_fgt)); with_reducible assumption) | omega | (simp only [uI_1, uL_1, th_1, uI_R, uL_R]; with_reducible assumption)) only [e_350, b_350_0, ↓pI_137, th_e, ↓is_137, ↓s_isTower', told_th, ↓reduceIte, i10, av_cI_r, av_cL_r, av_cV_r, Option.bind_some, ↓zb_0, ↓zb_1, ↓zb_b, bI_0, q1, Bool.true_eq_false]
      exact e2
end
