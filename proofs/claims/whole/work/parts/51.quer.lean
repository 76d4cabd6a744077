/-! what is asked of the drops made: washed, scratch, bill, aloft, learnt, gap -/
/-- both sides' drops -/
def EN (h g : av_H) (m : Nat) (D : Nat → Nat → Nat) (M N : Nat → Nat) : Prop := WF h ∧ WF g ∧ DB m D M N ∧ DC h m D M ∧ DR g m D N
theorem J_dp.EN {h : av_H} (w : WF h) (J : J_dp h) : ∃ m D M N, EN h (th h) m D M N ∧ DW h m D M := by
  obtain ⟨m, D, M, N, h1, h2, h3, h4⟩ := J
  exact ⟨m, D, M, N, ⟨w, w, h1, h2, h3.fr (agr.uI rfl agr.rfl)⟩, h4⟩
def prs (D : Nat → Nat) (p : Int32) : Bool := decide (nI (D 8) = p) || decide (nI (D 9) = p)
theorem i70 : ((7 : Int32) = 0) = False := by decide
theorem m1s (j : Nat) : nI j + (-1) = nI j - 1 := (Int32.sub_eq_add_neg (nI j) 1).symm
theorem gIv_0_17 {β : Type} {g : av_H} (w : WF g) {v : Int32} (e : g.2.1 0 17 = v) (K : Int32 → Option β) : (av_gI g (some 0) 10 17).bind K = K v := by rw [gI_0_17 w, e]
theorem gIv_137_45 {β : Type} {g : av_H} (w : WF g) {v : Int32} (e : g.2.1 137 45 = v) (K : Int32 → Option β) : (av_gI g (some 137) 11 45).bind K = K v := by rw [gI_137_45 w, e]
section
variable {X : av_X} {d : Nat} {h : av_H}
theorem c_hasP {i M : Nat} {D : Nat → Nat} (w : WF h) (hi : i < 60) (P : dpc h i D M) (p : Int32) : ev X (d + 1) 3 [vr (some (77 + i)), vi p] h = av_rI (bI (prs D p)) h := by
  have hD := P.1
  by_cases q1 : nI (D 8) = p
  · simp (disch := first | ((repeat (first | with_reducible apply WF_uI | with_reducible apply WF_uL | with_reducible apply WF_th | with_reducible apply WF_fillL | with_reducible apply WF_fgt)); with_reducible assumption) | omega | (simp only [uI_1, uL_1, th_1, uI_R, uL_R]; with_reducible assumption)) only [e_3, b_3_0, ↓dr_g (D := D), q1, ↓reduceIte, i10, av_cI_r, av_cL_r, av_cV_r, Option.bind_some, ↓zb_0, ↓zb_1, ↓zb_b, prs, decide_true, Bool.true_or, bI_t]
  · by_cases q2 : nI (D 9) = p
    · simp (disch := first | ((repeat (first | with_reducible apply WF_uI | with_reducible apply WF_uL | with_reducible apply WF_th | with_reducible apply WF_fillL | with_reducible apply WF_fgt)); with_reducible assumption) | omega | (simp only [uI_1, uL_1, th_1, uI_R, uL_R]; with_reducible assumption)) only [e_3, b_3_0, ↓dr_g (D := D), q1, q2, ↓reduceIte, i10, av_cI_r, av_cL_r, av_cV_r, Option.bind_some, ↓zb_0, ↓zb_1, ↓zb_b, prs, decide_true, Bool.or_true, bI_t]
    · simp (disch := first | ((repeat (first | with_reducible apply WF_uI | with_reducible apply WF_uL | with_reducible apply WF_th | with_reducible apply WF_fillL | with_reducible apply WF_fgt)); with_reducible assumption) | omega | (simp only [uI_1, uL_1, th_1, uI_R, uL_R]; with_reducible assumption)) only [e_3, b_3_0, ↓dr_g (D := D), q1, q2, ↓reduceIte, i10, av_cI_r, av_cL_r, av_cV_r, Option.bind_some, ↓zb_0, ↓zb_1, ↓zb_b, prs, decide_false, Bool.or_false, bI_f]
theorem c_hasP' {i M : Nat} {D : Nat → Nat} (w : WF h) (hi : i < 60) (P : dpc h i D M) (p : Int32) {β : Type} (Kc : Int32 × av_H → Option β) : (av_cI (ev X (d + 1) 3 [vr (some (77 + i)), vi p] h)).bind Kc = Kc (bI (prs D p), h) := by rw [c_hasP w hi P p]; rfl
theorem s_isIn {i N : Nat} {D : Nat → Nat} (w : WF h) (hi : i < 60) (P : dpr h i D N) (p : Int32) : ev X (d + 1) 362 [vr (some 137), vi (nI i), vi p] h = av_rI (bI (prs D p)) h := by
  obtain ⟨-, -, -, -, -, -, -, p8, p9, -⟩ := P
  by_cases q1 : nI (D 8) = p
  · simp (disch := first | ((repeat (first | with_reducible apply WF_uI | with_reducible apply WF_uL | with_reducible apply WF_th | with_reducible apply WF_fillL | with_reducible apply WF_fgt)); with_reducible assumption) | omega | (simp only [uI_1, uL_1, th_1, uI_R, uL_R]; with_reducible assumption)) only [e_362, b_362_0, ↓gR_137_53, ↓ld_175, ↓st_175, ↓ln_175, ↓gR_137_54, ↓ld_176, ↓st_176, ↓ln_176, p8, q1, ↓reduceIte, i10, av_cI_r, av_cL_r, av_cV_r, Option.bind_some, ↓zb_0, ↓zb_1, ↓zb_b, prs, decide_true, Bool.true_or, bI_t]
  · by_cases q2 : nI (D 9) = p
    · simp (disch := first | ((repeat (first | with_reducible apply WF_uI | with_reducible apply WF_uL | with_reducible apply WF_th | with_reducible apply WF_fillL | with_reducible apply WF_fgt)); with_reducible assumption) | omega | (simp only [uI_1, uL_1, th_1, uI_R, uL_R]; with_reducible assumption)) only [e_362, b_362_0, ↓gR_137_53, ↓ld_175, ↓st_175, ↓ln_175, ↓gR_137_54, ↓ld_176, ↓st_176, ↓ln_176, p8, p9, q1, q2, ↓reduceIte, i10, av_cI_r, av_cL_r, av_cV_r, Option.bind_some, ↓zb_0, ↓zb_1, ↓zb_b, prs, decide_true, Bool.or_true, bI_t]
    · simp (disch := first | ((repeat (first | with_reducible apply WF_uI | with_reducible apply WF_uL | with_reducible apply WF_th | with_reducible apply WF_fillL | with_reducible apply WF_fgt)); with_reducible assumption) | omega | (simp only [uI_1, uL_1, th_1, uI_R, uL_R]; with_reducible assumption)) only [e_362, b_362_0, ↓gR_137_53, ↓ld_175, ↓st_175, ↓ln_175, ↓gR_137_54, ↓ld_176, ↓st_176, ↓ln_176, p8, p9, q1, q2, ↓reduceIte, i10, av_cI_r, av_cL_r, av_cV_r, Option.bind_some, ↓zb_0, ↓zb_1, ↓zb_b, prs, decide_false, Bool.or_false, bI_f]
theorem s_isIn' {i N : Nat} {D : Nat → Nat} (w : WF h) (hi : i < 60) (P : dpr h i D N) (p : Int32) {β : Type} (Kc : Int32 × av_H → Option β) : (av_cI (ev X (d + 1) 362 [vr (some 137), vi (nI i), vi p] h)).bind Kc = Kc (bI (prs D p), h) := by rw [s_isIn w hi P p]; rfl
theorem c_isEl {b p : Nat} (w : WF h) (hb : h.2.1 27 3 = nI b) (h10 : b < 1024) (hp : p < 32) : ev X (d + 2) 25 [vr (some 27), vi (nI p)] h = av_rI (bI (b.testBit p)) h := by
  simp (disch := first | ((repeat (first | with_reducible apply WF_uI | with_reducible apply WF_uL | with_reducible apply WF_th | with_reducible apply WF_fillL | with_reducible apply WF_fgt)); with_reducible assumption) | omega | (simp only [uI_1, uL_1, th_1, uI_R, uL_R]; with_reducible assumption)) only [e_25, b_25_0, ↓gI_27_3, hb]
  rw [c_hasBit' (by omega) hp, zb_b]
theorem c_isEl' {b p : Nat} (w : WF h) (hb : h.2.1 27 3 = nI b) (h10 : b < 1024) (hp : p < 32) {β : Type} (Kc : Int32 × av_H → Option β) : (av_cI (ev X (d + 2) 25 [vr (some 27), vi (nI p)] h)).bind Kc = Kc (bI (b.testBit p), h) := by rw [c_isEl w hb h10 hp]; rfl
theorem wash_lp (w : WF h) {m : Nat} {D : Nat → Nat → Nat} {M N : Nat → Nat} (Bd : DB m D M N) (C : DC h m D M) {t s f c : Nat} (ht : t < 6) (hs : s < 4) (hf : f < 12) (hc : c < 10) : ∀ k, k ≤ m → bd X (d + 3) 142 14 [(0, vr (some 0)), (1, vi (nI t)), (2, vi (nI s)), (3, vi (nI f)), (4, vi (nI c)), (5, vi (nI k - 1))] [] h = av_rI (oI (wsh D M t s f c k)) h
  | 0, _ => by
    rw [b_142_14, if_pos (by decide)]
    rfl
  | j + 1, hj => by
    have ih := wash_lp w Bd C ht hs hf hc j (by omega)
    have h60 := Bd.1
    obtain ⟨b0, b1, b2, -, -, -, -, -, -, -, -, -, -, -, -, -, -, -, -, -, bM, -⟩ := Bd.2.1 j (by omega)
    have P := C.2 j (by omega)
    rw [b_142_14, nI_pred, if_neg (nI_pos (by omega)), gR_0_13 w, dr_l w (by omega), dr_is w (by omega), c_hasR' w (by omega) P ht hs hf hc b0 b1 b2 bM, wsh]
    cases q : rch (D j) (M j) t s f c with
    | false => rw [if_pos (show bI false = 0 from rfl), m1s, ih, if_neg (by decide)]
    | true =>
      rw [if_neg (show ¬ bI true = 0 by decide), gR_0_13 w, dr_l w (by omega), dr_g w (by omega) P.1 (by decide), if_pos rfl]
      rfl
theorem washed_ok (w : WF h) (J : J_tow h) (Dp : J_dp h) (t s f c : Int32) : ∃ v h1 h2, ev X (d + 5) 142 [vr (some 0), vi t, vi s, vi f, vi c] h = av_rI v h1 ∧ ev X (d + 5) 303 [vr (some 137), vi t, vi s, vi f, vi c] h1 = av_rI v h2 ∧ WF h2 ∧ off false [] [(137, 0)] h h2 := by
  have J2 := J.R.th
  cases ok : isPan h t s f c with
  | false =>
    refine ⟨-1, h, th h, ?_, ?_, w, agr.uI rfl agr.rfl⟩
    · simp (disch := first | ((repeat (first | with_reducible apply WF_uI | with_reducible apply WF_uL | with_reducible apply WF_th | with_reducible apply WF_fillL | with_reducible apply WF_fgt)); with_reducible assumption) | omega | (simp only [uI_1, uL_1, th_1, uI_R, uL_R]; with_reducible assumption)) only [e_142, b_142_0, ↓is_0, ↓c_isPane', ↓reduceIte, i10, av_cI_r, av_cL_r, av_cV_r, Option.bind_some, ↓zb_0, ↓zb_1, ↓zb_b, bI_0, ok]
    · simp (disch := first | ((repeat (first | with_reducible apply WF_uI | with_reducible apply WF_uL | with_reducible apply WF_th | with_reducible apply WF_fillL | with_reducible apply WF_fgt)); with_reducible assumption) | omega | (simp only [uI_1, uL_1, th_1, uI_R, uL_R]; with_reducible assumption)) only [e_303, b_303_0, ↓pI_137, th_e, ↓is_137, ↓s_isPane', ↓reduceIte, i10, av_cI_r, av_cL_r, av_cV_r, Option.bind_some, ↓zb_0, ↓zb_1, ↓zb_b, bI_0, isPan_th, ok]
  | true =>
    obtain ⟨t, s, f, c, b1, b2, b3, b4, rfl, rfl, rfl, rfl⟩ := pan_ex J ok
    obtain ⟨m, D, M, N, Bd, C, R, W⟩ := Dp
    refine ⟨oI (wsh D M t s f c m), h, th h, ?_, ?_, w, agr.uI rfl agr.rfl⟩
    · simp (disch := first | ((repeat (first | with_reducible apply WF_uI | with_reducible apply WF_uL | with_reducible apply WF_th | with_reducible apply WF_fillL | with_reducible apply WF_fgt)); with_reducible assumption) | omega | (simp only [uI_1, uL_1, th_1, uI_R, uL_R]; with_reducible assumption)) only [e_142, b_142_0, ↓is_0, ↓c_isPane', ↓reduceIte, i10, av_cI_r, av_cL_r, av_cV_r, Option.bind_some, ↓zb_0, ↓zb_1, ↓zb_b, bI_0, ok, Bool.true_eq_false, ↓gI_0_17, C.1]
      exact wash_lp (d := d + 1) w Bd C b1 b2 b3 b4 m (Nat.le_refl m)
    · simp (disch := first | ((repeat (first | with_reducible apply WF_uI | with_reducible apply WF_uL | with_reducible apply WF_th | with_reducible apply WF_fillL | with_reducible apply WF_fgt)); with_reducible assumption) | omega | (simp only [uI_1, uL_1, th_1, uI_R, uL_R]; with_reducible assumption)) only [e_303, b_303_0, ↓pI_137, th_e, ↓is_137, ↓s_isPane', ↓s_paneOf', ↓reduceIte, i10, av_cI_r, av_cL_r, av_cV_r, Option.bind_some, ↓zb_0, ↓zb_1, ↓zb_b, bI_0, isPan_th, ok, Bool.true_eq_false, ↓gR_137_13, ↓ld_146, th_I, W.1 t b1 s b2 f b3 c b4]
theorem scr_lp {g : av_H} {m : Nat} {D : Nat → Nat → Nat} {M N : Nat → Nat} (E : EN h g m D M N) {t s f c : Nat} (ht : t < 6) (hs : s < 4) (hf : f < 12) (hc : c < 10) (a b z : Int32) {d' : Nat} : ∀ n i (v8 v9 v10 : Int32), i + n = m → ∃ v,
    bd X (d + 3) 148 29 [(0, vr (some 0)), (1, vi (nI t)), (2, vi (nI s)), (3, vi (nI f)), (4, vi (nI c)), (5, vi a), (6, vi b), (7, vi z), (8, vi v8), (9, vi v9), (10, vi v10), (11, vi (nI i))] [] h = av_rI v h ∧
    bd X (d' + 1) 316 34 [(0, vr (some 137)), (1, vi (nI t)), (2, vi (nI s)), (3, vi (nI f)), (4, vi (nI c)), (5, vi a), (6, vi b), (7, vi z), (8, vi v8), (9, vi v9), (10, vi v10), (11, vi (nI i))] [] g = av_rI v g
  | 0, i, v8, v9, v10, hi => by
    obtain ⟨w, w', Bd, C, R⟩ := E
    have h60 := Bd.1
    refine ⟨if z = 0 then v8 else if z = 1 then v9 else v10, ?_, ?_⟩
    · rw [b_148_29, gIv_0_17 w C.1, if_neg (nI_nlt (by omega) (by omega))]
      split
      · rfl
      · split <;> rfl
    · rw [b_316_34, gIv_137_45 w' R.1, if_neg (nI_nlt (by omega) (by omega))]
      split
      · rfl
      · split <;> rfl
  | n + 1, i, v8, v9, v10, hi => by
    have ih := fun v8 v9 v10 => scr_lp E ht hs hf hc a b z (d' := d') n (i + 1) v8 v9 v10 (by omega)
    obtain ⟨w, w', Bd, ⟨c17, C⟩, ⟨r45, R⟩⟩ := E
    have h60 := Bd.1
    have lt : i < m := by omega
    have dB := Bd.2.1 i (by omega)
    obtain ⟨b0, b1, b2, -, -, -, -, -, -, -, -, -, -, -, -, -, -, -, -, -, bM, -⟩ := Bd.2.1 i (by omega)
    have P := C i (by omega)
    have hD := P.1
    have Q := R i (by omega)
    obtain ⟨p0, p1, p2, p4, p5, p6, p7, p8, p9, p12, p15, p16, p17, p13, p14, p10, p11, p18⟩ := R i (by omega)
    rcases bdi (rg (nI (D i 4)) (a + 1).toInt b.toInt) with q1 | q1
    · obtain ⟨v, e1, e2⟩ := ih v8 v9 v10
      refine ⟨v, ?_, ?_⟩
      · rw [b_148_29]
        simp (disch := first | ((repeat (first | with_reducible apply WF_uI | with_reducible apply WF_uL | with_reducible apply WF_th | with_reducible apply WF_fillL | with_reducible apply WF_fgt)); with_reducible assumption) | omega | (simp only [uI_1, uL_1, th_1, uI_R, uL_R]; with_reducible assumption)) only [↓gIv_0_17 (v := nI m), nI_ltI, lt, ↓gR_0_13, ↓dr_l, ↓dr_is, ↓dr_g (D := D i), ↓c_hasP' (D := D i) (M := M i), ↓c_within', ↓reduceIte, i10, av_cI_r, av_cL_r, av_cV_r, Option.bind_some, ↓zb_0, ↓zb_1, ↓zb_b, bI_0, Bool.true_eq_false, nI_1,  q1, e1]
      · rw [b_316_34]
        simp (disch := first | ((repeat (first | with_reducible apply WF_uI | with_reducible apply WF_uL | with_reducible apply WF_th | with_reducible apply WF_fillL | with_reducible apply WF_fgt)); with_reducible assumption) | omega | (simp only [uI_1, uL_1, th_1, uI_R, uL_R]; with_reducible assumption)) only [↓gIv_137_45 (v := nI m), nI_ltI, lt, ↓is_137, ↓s_isIn' (D := D i) (N := N i), ↓s_within', ↓reduceIte, i10, av_cI_r, av_cL_r, av_cV_r, Option.bind_some, ↓zb_0, ↓zb_1, ↓zb_b, bI_0, Bool.true_eq_false, nI_1, Int32.add_zero, p0, p1, p2, p4, p5, p6, p7, p8, p9, p12, p15, p16, p17, p13, p14, p10, p11,  ↓gR_137_49, ↓ld_171, q1, e2]
    · rcases bdi (rch (D i) (M i) t s f c) with q2 | q2
      · obtain ⟨v, e1, e2⟩ := ih v8 v9 v10
        refine ⟨v, ?_, ?_⟩
        · rw [b_148_29]
          simp (disch := first | ((repeat (first | with_reducible apply WF_uI | with_reducible apply WF_uL | with_reducible apply WF_th | with_reducible apply WF_fillL | with_reducible apply WF_fgt)); with_reducible assumption) | omega | (simp only [uI_1, uL_1, th_1, uI_R, uL_R]; with_reducible assumption)) only [↓gIv_0_17 (v := nI m), nI_ltI, lt, ↓gR_0_13, ↓dr_l, ↓dr_is, ↓dr_g (D := D i), ↓c_hasP' (D := D i) (M := M i), ↓c_within', ↓reduceIte, i10, av_cI_r, av_cL_r, av_cV_r, Option.bind_some, ↓zb_0, ↓zb_1, ↓zb_b, bI_0, Bool.true_eq_false, nI_1,  ↓c_hasR' (D := D i) (M := M i), q1, q2, e1]
        · rw [b_316_34]
          simp (disch := first | ((repeat (first | with_reducible apply WF_uI | with_reducible apply WF_uL | with_reducible apply WF_th | with_reducible apply WF_fillL | with_reducible apply WF_fgt)); with_reducible assumption) | omega | (simp only [uI_1, uL_1, th_1, uI_R, uL_R]; with_reducible assumption)) only [↓gIv_137_45 (v := nI m), nI_ltI, lt, ↓is_137, ↓s_isIn' (D := D i) (N := N i), ↓s_within', ↓reduceIte, i10, av_cI_r, av_cL_r, av_cV_r, Option.bind_some, ↓zb_0, ↓zb_1, ↓zb_b, bI_0, Bool.true_eq_false, nI_1, Int32.add_zero, p0, p1, p2, p4, p5, p6, p7, p8, p9, p12, p15, p16, p17, p13, p14, p10, p11,  ↓s_didR' (D := D i) (M := M i) (N := N i), ↓gR_137_49, ↓ld_171, q1, q2, e2]
      · obtain ⟨v, e1, e2⟩ := ih (v8 ||| (((1 : Int32) <<< (nI (D i 8) &&& 31)) ||| ((1 : Int32) <<< (nI (D i 9) &&& 31)))) (v9 + 1) (nI i)
        refine ⟨v, ?_, ?_⟩
        · rw [b_148_29]
          simp (disch := first | ((repeat (first | with_reducible apply WF_uI | with_reducible apply WF_uL | with_reducible apply WF_th | with_reducible apply WF_fillL | with_reducible apply WF_fgt)); with_reducible assumption) | omega | (simp only [uI_1, uL_1, th_1, uI_R, uL_R]; with_reducible assumption)) only [↓gIv_0_17 (v := nI m), nI_ltI, lt, ↓gR_0_13, ↓dr_l, ↓dr_is, ↓dr_g (D := D i), ↓c_hasP' (D := D i) (M := M i), ↓c_within', ↓reduceIte, i10, av_cI_r, av_cL_r, av_cV_r, Option.bind_some, ↓zb_0, ↓zb_1, ↓zb_b, bI_0, Bool.true_eq_false, nI_1,  ↓c_hasR' (D := D i) (M := M i), q1, q2, e1]
        · rw [b_316_34]
          simp (disch := first | ((repeat (first | with_reducible apply WF_uI | with_reducible apply WF_uL | with_reducible apply WF_th | with_reducible apply WF_fillL | with_reducible apply WF_fgt)); with_reducible assumption) | omega | (simp only [uI_1, uL_1, th_1, uI_R, uL_R]; with_reducible assumption)) only [↓gIv_137_45 (v := nI m), nI_ltI, lt, ↓is_137, ↓s_isIn' (D := D i) (N := N i), ↓s_within', ↓reduceIte, i10, av_cI_r, av_cL_r, av_cV_r, Option.bind_some, ↓zb_0, ↓zb_1, ↓zb_b, bI_0, Bool.true_eq_false, nI_1, Int32.add_zero, p0, p1, p2, p4, p5, p6, p7, p8, p9, p12, p15, p16, p17, p13, p14, p10, p11,  ↓s_didR' (D := D i) (M := M i) (N := N i), ↓gR_137_49, ↓gR_137_53, ↓gR_137_54, ↓ld_171, ↓ld_175, ↓ld_176, q1, q2, e2]
def okSc (h : av_H) (t s f c a b z : Int32) : Bool := isPan h t s f c && rg a 0 99 && rg b 0 99 && decide (a < b) && rg z 0 2
theorem scratch_ok (w : WF h) (J : J_tow h) (Dp : J_dp h) (t s f c a b z : Int32) : ∃ v h1 h2, ev X (d + 5) 148 [vr (some 0), vi t, vi s, vi f, vi c, vi a, vi b, vi z] h = av_rI v h1 ∧ ev X (d + 5) 316 [vr (some 137), vi t, vi s, vi f, vi c, vi a, vi b, vi z] h1 = av_rI v h2 ∧ WF h2 ∧ off false [] [(137, 0)] h h2 := by
  have J2 := J.R.th
  have hk : (a ≤ b) = ¬ b < a := by simp only [eq_iff_iff]; exact Int32.not_lt.symm
  cases ok : okSc h t s f c a b z with
  | false =>
    refine ⟨-1, h, th h, ?_, ?_, w, agr.uI rfl agr.rfl⟩
    · rcases bdi (isPan h t s f c) with q1 | q1
      · simp (disch := first | ((repeat (first | with_reducible apply WF_uI | with_reducible apply WF_uL | with_reducible apply WF_th | with_reducible apply WF_fillL | with_reducible apply WF_fgt)); with_reducible assumption) | omega | (simp only [uI_1, uL_1, th_1, uI_R, uL_R]; with_reducible assumption)) only [e_148, b_148_0, ↓is_0, ↓c_isPane', ↓c_areDays', ↓c_within', ↓reduceIte, i10, av_cI_r, av_cL_r, av_cV_r, Option.bind_some, ↓zb_0, ↓zb_1, ↓zb_b, bI_0, tI_0, tI_2, Bool.false_and, Bool.true_and, Bool.and_false, ite_self, q1, Bool.true_eq_false]
      rcases bdi (rg a 0 99) with q2 | q2
      · simp (disch := first | ((repeat (first | with_reducible apply WF_uI | with_reducible apply WF_uL | with_reducible apply WF_th | with_reducible apply WF_fillL | with_reducible apply WF_fgt)); with_reducible assumption) | omega | (simp only [uI_1, uL_1, th_1, uI_R, uL_R]; with_reducible assumption)) only [e_148, b_148_0, ↓is_0, ↓c_isPane', ↓c_areDays', ↓c_within', ↓reduceIte, i10, av_cI_r, av_cL_r, av_cV_r, Option.bind_some, ↓zb_0, ↓zb_1, ↓zb_b, bI_0, tI_0, tI_2, Bool.false_and, Bool.true_and, Bool.and_false, ite_self, q1, q2, Bool.true_eq_false]
      rcases bdi (rg b 0 99) with q3 | q3
      · simp (disch := first | ((repeat (first | with_reducible apply WF_uI | with_reducible apply WF_uL | with_reducible apply WF_th | with_reducible apply WF_fillL | with_reducible apply WF_fgt)); with_reducible assumption) | omega | (simp only [uI_1, uL_1, th_1, uI_R, uL_R]; with_reducible assumption)) only [e_148, b_148_0, ↓is_0, ↓c_isPane', ↓c_areDays', ↓c_within', ↓reduceIte, i10, av_cI_r, av_cL_r, av_cV_r, Option.bind_some, ↓zb_0, ↓zb_1, ↓zb_b, bI_0, tI_0, tI_2, Bool.false_and, Bool.true_and, Bool.and_false, ite_self, q1, q2, q3, Bool.true_eq_false]
      rcases bdi (decide (a ≤ b)) with q4 | q4
      · simp (disch := first | ((repeat (first | with_reducible apply WF_uI | with_reducible apply WF_uL | with_reducible apply WF_th | with_reducible apply WF_fillL | with_reducible apply WF_fgt)); with_reducible assumption) | omega | (simp only [uI_1, uL_1, th_1, uI_R, uL_R]; with_reducible assumption)) only [e_148, b_148_0, ↓is_0, ↓c_isPane', ↓c_areDays', ↓c_within', ↓reduceIte, i10, av_cI_r, av_cL_r, av_cV_r, Option.bind_some, ↓zb_0, ↓zb_1, ↓zb_b, bI_0, tI_0, tI_2, Bool.false_and, Bool.true_and, Bool.and_false, ite_self, q1, q2, q3, q4, Bool.true_eq_false]
      rcases Classical.em (a = b) with q5 | q5
      · simp (disch := first | ((repeat (first | with_reducible apply WF_uI | with_reducible apply WF_uL | with_reducible apply WF_th | with_reducible apply WF_fillL | with_reducible apply WF_fgt)); with_reducible assumption) | omega | (simp only [uI_1, uL_1, th_1, uI_R, uL_R]; with_reducible assumption)) only [e_148, b_148_0, ↓is_0, ↓c_isPane', ↓c_areDays', ↓c_within', ↓reduceIte, i10, av_cI_r, av_cL_r, av_cV_r, Option.bind_some, ↓zb_0, ↓zb_1, ↓zb_b, bI_0, tI_0, tI_2, Bool.false_and, Bool.true_and, Bool.and_false, ite_self, q1, q2, q3, q4, q5, Bool.true_eq_false]
      rcases bdi (rg z 0 2) with q6 | q6
      · simp (disch := first | ((repeat (first | with_reducible apply WF_uI | with_reducible apply WF_uL | with_reducible apply WF_th | with_reducible apply WF_fillL | with_reducible apply WF_fgt)); with_reducible assumption) | omega | (simp only [uI_1, uL_1, th_1, uI_R, uL_R]; with_reducible assumption)) only [e_148, b_148_0, ↓is_0, ↓c_isPane', ↓c_areDays', ↓c_within', ↓reduceIte, i10, av_cI_r, av_cL_r, av_cV_r, Option.bind_some, ↓zb_0, ↓zb_1, ↓zb_b, bI_0, tI_0, tI_2, Bool.false_and, Bool.true_and, Bool.and_false, ite_self, q1, q2, q3, q4, q5, q6, Bool.true_eq_false]
      have lt : a < b := by
        have := of_decide_eq_true q4
        rw [i_le] at this
        rw [i_lt]
        have : a.toInt ≠ b.toInt := fun e => q5 (Int32.toInt_inj.mp e)
        omega
      simp [okSc, q1, q2, q3, q6, lt] at ok
    · rcases bdi (isPan h t s f c) with q1 | q1
      · simp (disch := first | ((repeat (first | with_reducible apply WF_uI | with_reducible apply WF_uL | with_reducible apply WF_th | with_reducible apply WF_fillL | with_reducible apply WF_fgt)); with_reducible assumption) | omega | (simp only [uI_1, uL_1, th_1, uI_R, uL_R]; with_reducible assumption)) only [e_316, b_316_0, ↓pI_137, th_e, ↓is_137, ↓s_isPane', ↓s_isDay', ↓s_within', ↓reduceIte, i10, av_cI_r, av_cL_r, av_cV_r, Option.bind_some, ↓zb_0, ↓zb_1, ↓zb_b, bI_0, tI_0, tI_2, isPan_th, q1, Bool.true_eq_false]
      rcases bdi (rg a 0 99) with q2 | q2
      · simp (disch := first | ((repeat (first | with_reducible apply WF_uI | with_reducible apply WF_uL | with_reducible apply WF_th | with_reducible apply WF_fillL | with_reducible apply WF_fgt)); with_reducible assumption) | omega | (simp only [uI_1, uL_1, th_1, uI_R, uL_R]; with_reducible assumption)) only [e_316, b_316_0, ↓pI_137, th_e, ↓is_137, ↓s_isPane', ↓s_isDay', ↓s_within', ↓reduceIte, i10, av_cI_r, av_cL_r, av_cV_r, Option.bind_some, ↓zb_0, ↓zb_1, ↓zb_b, bI_0, tI_0, tI_2, isPan_th, q1, q2, Bool.true_eq_false]
      rcases bdi (rg b 0 99) with q3 | q3
      · simp (disch := first | ((repeat (first | with_reducible apply WF_uI | with_reducible apply WF_uL | with_reducible apply WF_th | with_reducible apply WF_fillL | with_reducible apply WF_fgt)); with_reducible assumption) | omega | (simp only [uI_1, uL_1, th_1, uI_R, uL_R]; with_reducible assumption)) only [e_316, b_316_0, ↓pI_137, th_e, ↓is_137, ↓s_isPane', ↓s_isDay', ↓s_within', ↓reduceIte, i10, av_cI_r, av_cL_r, av_cV_r, Option.bind_some, ↓zb_0, ↓zb_1, ↓zb_b, bI_0, tI_0, tI_2, isPan_th, q1, q2, q3, Bool.true_eq_false]
      rcases Classical.em (¬ a < b) with q5 | q5
      · simp (disch := first | ((repeat (first | with_reducible apply WF_uI | with_reducible apply WF_uL | with_reducible apply WF_th | with_reducible apply WF_fillL | with_reducible apply WF_fgt)); with_reducible assumption) | omega | (simp only [uI_1, uL_1, th_1, uI_R, uL_R]; with_reducible assumption)) only [e_316, b_316_0, ↓pI_137, th_e, ↓is_137, ↓s_isPane', ↓s_isDay', ↓s_within', ↓reduceIte, i10, av_cI_r, av_cL_r, av_cV_r, Option.bind_some, ↓zb_0, ↓zb_1, ↓zb_b, bI_0, tI_0, tI_2, isPan_th, q1, q2, q3, q5, Bool.true_eq_false]
      have q5 : a < b := Classical.not_not.mp q5
      rcases bdi (rg z 0 2) with q6 | q6
      · simp (disch := first | ((repeat (first | with_reducible apply WF_uI | with_reducible apply WF_uL | with_reducible apply WF_th | with_reducible apply WF_fillL | with_reducible apply WF_fgt)); with_reducible assumption) | omega | (simp only [uI_1, uL_1, th_1, uI_R, uL_R]; with_reducible assumption)) only [e_316, b_316_0, ↓pI_137, th_e, ↓is_137, ↓s_isPane', ↓s_isDay', ↓s_within', ↓reduceIte, i10, av_cI_r, av_cL_r, av_cV_r, Option.bind_some, ↓zb_0, ↓zb_1, ↓zb_b, bI_0, tI_0, tI_2, isPan_th, q1, q2, q3, q5, q6, Bool.true_eq_false]
      · simp [okSc, q1, q2, q3, q5, q6] at ok
  | true =>
    obtain ⟨⟨⟨⟨q1, q2⟩, q3⟩, q4⟩, q6⟩ : (((isPan h t s f c = true ∧ rg a 0 99 = true) ∧ rg b 0 99 = true) ∧ a < b) ∧ rg z 0 2 = true := by simpa only [okSc, Bool.and_eq_true, decide_eq_true_eq] using ok
    have q5 : ¬ a = b := fun e => by rw [i_lt, e] at q4; omega
    have q7 : a ≤ b := by rw [i_lt] at q4; rw [i_le]; omega
    obtain ⟨t, s, f, c, b1, b2, b3, b4, rfl, rfl, rfl, rfl⟩ := pan_ex J q1
    obtain ⟨m, D, M, N, E, W⟩ := Dp.EN w
    obtain ⟨v, e1, e2⟩ := scr_lp (X := X) (d := d + 1) (d' := d + 3) E b1 b2 b3 b4 a b z m 0 0 0 (-1) (by omega)
    refine ⟨v, h, th h, ?_, ?_, w, agr.uI rfl agr.rfl⟩
    · simp (disch := first | ((repeat (first | with_reducible apply WF_uI | with_reducible apply WF_uL | with_reducible apply WF_th | with_reducible apply WF_fillL | with_reducible apply WF_fgt)); with_reducible assumption) | omega | (simp only [uI_1, uL_1, th_1, uI_R, uL_R]; with_reducible assumption)) only [e_148, b_148_0, ↓is_0, ↓c_isPane', ↓c_areDays', ↓c_within', ↓reduceIte, i10, av_cI_r, av_cL_r, av_cV_r, Option.bind_some, ↓zb_0, ↓zb_1, ↓zb_b, bI_0, tI_0, tI_2, q1, q2, q3, q5, q6, q7, decide_true, Bool.true_and, Bool.true_eq_false]
      exact e1
    · simp (disch := first | ((repeat (first | with_reducible apply WF_uI | with_reducible apply WF_uL | with_reducible apply WF_th | with_reducible apply WF_fillL | with_reducible apply WF_fgt)); with_reducible assumption) | omega | (simp only [uI_1, uL_1, th_1, uI_R, uL_R]; with_reducible assumption)) only [e_316, b_316_0, ↓pI_137, th_e, ↓is_137, ↓s_isPane', ↓s_isDay', ↓s_within', ↓reduceIte, i10, av_cI_r, av_cL_r, av_cV_r, Option.bind_some, ↓zb_0, ↓zb_1, ↓zb_b, bI_0, tI_0, tI_2, isPan_th, q1, q2, q3, q4, q6, Bool.true_eq_false]
      exact e2
end
