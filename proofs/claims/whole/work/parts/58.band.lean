/-! band, worst, week -/
section
variable {X : av_X} {d : Nat} {h : av_H}
theorem isO_lp {g : av_H} {m n : Nat} {D : Nat → Nat → Nat} {M N T S F E K : Nat → Nat} (A : EC h g m D M N n T S F E K) {c : Nat} (hc : c < n) : ∀ r i, i + r = m → bd X (d + 3) 226 2 [(0, vr (some 0)), (1, vi (nI c)), (2, vi (nI i))] [] h = av_rI (bI (anyN r i (fun i => psB (D i) (T c) (S c) (F c) (E c) (K c)))) h
  | 0, i, hi => by
    obtain ⟨⟨w, w', Bd, ⟨c17, C⟩, -⟩, -⟩ := A
    have h60 := Bd.1
    rw [b_226_2, gIv_0_17 w c17, if_neg (nI_nlt (by omega) (by omega))]
    rfl
  | r + 1, i, hi => by
    have ih := isO_lp A hc r (i + 1) (by omega)
    obtain ⟨⟨w, w', Bd, ⟨c17, C⟩, -⟩, -, cb, cc, -⟩ := A
    have h60 := Bd.1
    rw [b_226_2, gIv_0_17 w c17, if_pos (nI_lt (by omega) (by omega)), gR_0_13 w, dr_l w (by omega), is_0 w, c_cause' w (by omega) (C i (by omega)) (Bd.2.1 i (by omega)) cb cc hc, nI_1, anyN]
    cases psB (D i) (T c) (S c) (F c) (E c) (K c) with
    | false =>
      rw [Bool.false_or]
      exact ih
    | true => rfl
theorem c_isO {m n c : Nat} {g : av_H} {D : Nat → Nat → Nat} {M N T S F E K : Nat → Nat} (A : EC h g m D M N n T S F E K) (hc : c < n) : ev X (d + 4) 226 [vr (some 0), vi (nI c)] h = av_rI (bI (anyN m 0 (fun i => psB (D i) (T c) (S c) (F c) (E c) (K c)))) h := by
  rw [e_226, b_226_0]
  exact isO_lp A hc m 0 (by omega)
theorem c_isO' {m n c : Nat} {g : av_H} {D : Nat → Nat → Nat} {M N T S F E K : Nat → Nat} (A : EC h g m D M N n T S F E K) (hc : c < n) {β : Type} (Kc : Int32 × av_H → Option β) : (av_cI (ev X (d + 4) 226 [vr (some 0), vi (nI c)] h)).bind Kc = Kc (bI (anyN m 0 (fun i => psB (D i) (T c) (S c) (F c) (E c) (K c))), h) := by rw [c_isO A hc]; rfl
theorem s_ours0 {m n c : Nat} {D : Nat → Nat → Nat} {M N T S F E K : Nat → Nat} (A : EC h (th h) m D M N n T S F E K) (hc : c < n) : ev X (d + 2) 353 [vr (some 137), vi (nI c), vi 0] (th h) = av_rI (nI (fb_ct (fun i => psB (D i) (T c) (S c) (F c) (E c) (K c)) m)) (th h) := by
  have A0 := A
  obtain ⟨⟨w, w', Bd, -, -⟩, -, cb, -, cq⟩ := A
  have h40 := cb.1
  rw [e_353, b_353_0, pI_137 w', th_e, th_th, if_neg (nI_pos (by omega)), gIv_137_92 w' cq.1, if_pos (nI_lt (by omega) (by omega)), s_within', show rg 0 (0 : Int32).toInt (1 : Int32).toInt = true from by decide, if_neg (show ¬ bI true = 0 by decide)]
  have := ours_s (X := X) (d := d) A0 hc 0 m 0 (by omega)
  rw [if_pos rfl] at this
  exact this
/-- complaint c is of the band, and ours -/
def obC (h : av_H) (m : Nat) (D : Nat → Nat → Nat) (T S F E K : Nat → Nat) (b : Nat) (c : Nat) : Bool := decide (wvN h (S c) (E c) (K c) / 10 = b) && anyN m 0 (fun i => psB (D i) (T c) (S c) (F c) (E c) (K c))
theorem ob_c {g : av_H} {m n : Nat} {D : Nat → Nat → Nat} {M N T S F E K : Nat → Nat} (Jw : J_wi h) (A : EC h g m D M N n T S F E K) {b : Nat} (hb : b < 10) : ∀ r c, c + r = n → bd X (d + 4) 229 4 [(0, vr (some 0)), (1, vi (nI b)), (2, vi (nI (fb_ct (obC h m D T S F E K b) c))), (3, vi (nI c))] [] h = av_rI (nI (fb_ct (obC h m D T S F E K b) n)) h
  | 0, c, hc => by
    obtain ⟨⟨w, -⟩, -, cb, cc, -⟩ := A
    have h40 := cb.1
    obtain rfl : c = n := by omega
    rw [b_229_4, gR_0_5 w, gIv_21_5 w cc.1, if_neg (nI_nlt (by omega) (by omega))]
  | r + 1, c, hc => by
    have ih := ob_c Jw A hb r (c + 1) (by omega)
    have A0 := A
    obtain ⟨⟨w, -⟩, -, cb, cc, -⟩ := A
    have h40 := cb.1
    obtain ⟨a1, a2, a3, a4, a5⟩ := cb.2 c (by omega)
    obtain ⟨e1, e2, e3⟩ := cc.2 c (by omega)
    have v99 := (Jw.v a2 a4 a5).2.1
    have v1 : ((T c * 4 + S c) * 12 + F c) / 12 = T c * 4 + S c := by omega
    have v2 : (T c * 4 + S c) % 4 = S c := by omega
    rw [b_229_4, gR_0_5 w, gIv_21_5 w cc.1, if_pos (nI_lt (by omega) (by omega)), gR_0_5 w, gR_21_0 w, ld_22 w (by omega), e1, if_neg (by decide), if_neg (by decide), gR_0_5 w, gR_21_1 w, ld_23 w (by omega), e2, gR_0_5 w, gR_21_2 w, ld_25 w (by omega), e3, is_0 w, lit_12, lit_4, pk_div (by omega) (by omega) (by omega), v1, pk_rem (by omega) (by omega) (by omega), v2, c_bandOf' w Jw a2 a4 a5, nI_1]
    rw [fb_ct, obC] at ih
    by_cases q : wvN h (S c) (E c) (K c) / 10 = b
    · rw [if_pos (congrArg nI q), is_0 w, c_isO' A0 (by omega)]
      rw [decide_eq_true q, Bool.true_and] at ih
      cases q2 : anyN m 0 (fun i => psB (D i) (T c) (S c) (F c) (E c) (K c)) with
      | false =>
        rw [q2, if_neg (by decide)] at ih
        rw [if_pos (show bI false = 0 from rfl)]
        exact ih
      | true =>
        rw [q2, if_pos rfl] at ih
        rw [if_neg (show ¬ bI true = 0 by decide), nI_1]
        exact ih
    · rw [if_neg (fun y => q ((nI_eq (by omega) (by omega)).mp y))]
      rw [decide_eq_false q, Bool.false_and, if_neg (by decide)] at ih
      exact ih
theorem c_obB {m n b : Nat} {g : av_H} {D : Nat → Nat → Nat} {M N T S F E K : Nat → Nat} (Jw : J_wi h) (A : EC h g m D M N n T S F E K) (hb : b < 10) : ev X (d + 5) 229 [vr (some 0), vi (nI b)] h = av_rI (nI (fb_ct (obC h m D T S F E K b) n)) h := by
  rw [e_229, b_229_0]
  exact ob_c Jw A hb n 0 (by omega)
theorem c_obB' {m n b : Nat} {g : av_H} {D : Nat → Nat → Nat} {M N T S F E K : Nat → Nat} (Jw : J_wi h) (A : EC h g m D M N n T S F E K) (hb : b < 10) {β : Type} (Kc : Int32 × av_H → Option β) : (av_cI (ev X (d + 5) 229 [vr (some 0), vi (nI b)] h)).bind Kc = Kc (nI (fb_ct (obC h m D T S F E K b) n), h) := by rw [c_obB Jw A hb]; rfl
theorem ob_s {m n : Nat} {D : Nat → Nat → Nat} {M N T S F E K : Nat → Nat} (Jw : J_wi (th h)) (A : EC h (th h) m D M N n T S F E K) {b : Nat} (hb : b < 10) : ∀ r c, c + r = n → bd X (d + 2) 356 4 [(0, vr (some 137)), (1, vi (nI b)), (2, vi (nI (fb_ct (obC (th h) m D T S F E K b) c))), (3, vi (nI c))] [] (th h) = av_rI (nI (fb_ct (obC (th h) m D T S F E K b) n)) (th h)
  | 0, c, hc => by
    obtain ⟨⟨w, w', -⟩, -, cb, -, cq⟩ := A
    have h40 := cb.1
    obtain rfl : c = n := by omega
    rw [b_356_4, gIv_137_92 w' cq.1, if_neg (nI_nlt (by omega) (by omega))]
  | r + 1, c, hc => by
    have ih := ob_s Jw A hb r (c + 1) (by omega)
    have A0 := A
    obtain ⟨⟨w, w', Bd, -⟩, -, cb, -, cq⟩ := A
    have h40 := cb.1
    have h60 := Bd.1
    obtain ⟨a1, a2, a3, a4, a5⟩ := cb.2 c (by omega)
    obtain ⟨e1, e2, e3, e4, e5⟩ := cq.2 c (by omega)
    have v99 := (Jw.v a2 a4 a5).2.1
    have ctl := fb_ct_le (fun i => psB (D i) (T c) (S c) (F c) (E c) (K c)) m
    rw [b_356_4, gIv_137_92 w' cq.1, if_pos (nI_lt (by omega) (by omega)), is_137 w', s_ours0 A0 (by omega), av_cI_r, Option.bind_some, nI_1, nI_1, Int32.add_zero]
    rw [fb_ct, obC, ← ct_any] at ih
    by_cases q : 0 < fb_ct (fun i => psB (D i) (T c) (S c) (F c) (E c) (K c)) m
    · rw [decide_eq_true q, Bool.and_true] at ih
      rw [if_pos (show (0 : Int32) < nI _ from nI_lt (a := 0) q (by omega)), gR_137_94 w', ld_211 w' (by omega), gR_137_96 w', ld_213 w' (by omega), gR_137_97 w', ld_214 w' (by omega), e2, e4, e5, is_137 w', s_bandAt' w' Jw a2 a4 a5]
      by_cases q2 : wvN (th h) (S c) (E c) (K c) / 10 = b
      · rw [decide_eq_true q2, if_pos rfl] at ih
        rw [if_pos (congrArg nI q2)]
        exact ih
      · rw [decide_eq_false q2, if_neg (by decide)] at ih
        rw [if_neg (fun y => q2 ((nI_eq (by omega) (by omega)).mp y))]
        exact ih
    · rw [decide_eq_false q, Bool.and_false, if_neg (by decide)] at ih
      rw [if_neg (show ¬ (0 : Int32) < nI _ from nI_nlt (b := fb_ct (fun i => psB (D i) (T c) (S c) (F c) (E c) (K c)) m) (a := 0) (by omega) (by omega))]
      exact ih
theorem s_hrB {m b : Nat} {D : Nat → Nat → Nat} {M N : Nat → Nat} (Jw : J_wi (th h)) (Q : EN h (th h) m D M N) (hb : b < 10) : ev X (d + 2) 355 [vr (some 137), vi (nI b)] (th h) = av_rI (nI (fb_sm (fun i => hbC (th h) (D i) b (D i 6)) m)) (th h) := by
  rw [e_355, b_355_0]
  exact hb_s Jw Q hb m 0 (by omega)
theorem s_obB {m n b : Nat} {D : Nat → Nat → Nat} {M N T S F E K : Nat → Nat} (Jw : J_wi (th h)) (A : EC h (th h) m D M N n T S F E K) (hb : b < 10) : ev X (d + 3) 356 [vr (some 137), vi (nI b)] (th h) = av_rI (nI (fb_ct (obC (th h) m D T S F E K b) n)) (th h) := by
  rw [e_356, b_356_0]
  exact ob_s Jw A hb n 0 (by omega)
theorem hbC_th (D : Nat → Nat) (b j : Nat) : hbC (th h) D b j = hbC h D b j := by
  simp only [hbC, wvN_eq (h := h) (g := th h) (th_I (by decide))]
theorem obC_th (m : Nat) (D : Nat → Nat → Nat) (T S F E K : Nat → Nat) (b : Nat) : obC (th h) m D T S F E K b = obC h m D T S F E K b := by
  funext c
  simp only [obC, wvN_eq (h := h) (g := th h) (th_I (by decide))]
theorem band_ok (w : WF h) (Jw : J_wi h) (Dp : J_dp h) (Co : J_co h) (b z : Int32) : ∃ v h1 h2, ev X (d + 6) 171 [vr (some 0), vi b, vi z] h = av_rI v h1 ∧ ev X (d + 6) 357 [vr (some 137), vi b, vi z] h1 = av_rI v h2 ∧ WF h2 ∧ off false [] [(137, 0)] h h2 := by
  have e10 : ∀ v : Int32, rg v 0 ((10 : Int) - 1) = rg v 0 9 := fun _ => rfl
  have Jw2 : J_wi (th h) := Jw.fr (agr.uI rfl agr.rfl)
  obtain ⟨m, D, M, N, n, T, S, F, E, K, A⟩ := J_EC w Dp Co
  cases ok : (rg b 0 9 && rg z 0 1) with
  | false =>
    refine ⟨-1, h, th h, ?_, ?_, w, agr.uI rfl agr.rfl⟩
    · rcases bdi (rg b 0 9) with q1 | q1
      · simp (disch := first | ((repeat (first | with_reducible apply WF_uI | with_reducible apply WF_uL | with_reducible apply WF_th | with_reducible apply WF_fillL | with_reducible apply WF_fgt)); with_reducible assumption) | omega | (simp only [uI_1, uL_1, th_1, uI_R, uL_R]; with_reducible assumption)) only [e_171, b_171_0, ↓c_below', ↓c_within', ↓reduceIte, i10, av_cI_r, av_cL_r, av_cV_r, Option.bind_some, ↓zb_0, ↓zb_1, ↓zb_b, bI_0, tI_0, tI_1, tI_10, e10, q1, Bool.true_eq_false]
      rcases bdi (rg z 0 1) with q2 | q2
      · simp (disch := first | ((repeat (first | with_reducible apply WF_uI | with_reducible apply WF_uL | with_reducible apply WF_th | with_reducible apply WF_fillL | with_reducible apply WF_fgt)); with_reducible assumption) | omega | (simp only [uI_1, uL_1, th_1, uI_R, uL_R]; with_reducible assumption)) only [e_171, b_171_0, ↓c_below', ↓c_within', ↓reduceIte, i10, av_cI_r, av_cL_r, av_cV_r, Option.bind_some, ↓zb_0, ↓zb_1, ↓zb_b, bI_0, tI_0, tI_1, tI_10, e10, q1, q2, Bool.true_eq_false]
      simp [q1, q2] at ok
    · rcases bdi (rg b 0 9) with q1 | q1
      · simp (disch := first | ((repeat (first | with_reducible apply WF_uI | with_reducible apply WF_uL | with_reducible apply WF_th | with_reducible apply WF_fillL | with_reducible apply WF_fgt)); with_reducible assumption) | omega | (simp only [uI_1, uL_1, th_1, uI_R, uL_R]; with_reducible assumption)) only [e_357, b_357_0, ↓pI_137, th_e, ↓s_within', ↓reduceIte, i10, av_cI_r, av_cL_r, av_cV_r, Option.bind_some, ↓zb_0, ↓zb_1, ↓zb_b, bI_0, tI_0, tI_1, tI_9, q1, Bool.true_eq_false]
      rcases bdi (rg z 0 1) with q2 | q2
      · simp (disch := first | ((repeat (first | with_reducible apply WF_uI | with_reducible apply WF_uL | with_reducible apply WF_th | with_reducible apply WF_fillL | with_reducible apply WF_fgt)); with_reducible assumption) | omega | (simp only [uI_1, uL_1, th_1, uI_R, uL_R]; with_reducible assumption)) only [e_357, b_357_0, ↓pI_137, th_e, ↓s_within', ↓reduceIte, i10, av_cI_r, av_cL_r, av_cV_r, Option.bind_some, ↓zb_0, ↓zb_1, ↓zb_b, bI_0, tI_0, tI_1, tI_9, q1, q2, Bool.true_eq_false]
      simp [q1, q2] at ok
  | true =>
    obtain ⟨q1, q2⟩ : rg b 0 9 = true ∧ rg z 0 1 = true := by simpa only [Bool.and_eq_true] using ok
    obtain ⟨b, hb, rfl⟩ := rg_nI (b := 9) (by decide) q1
    have s1 := s_hrB (X := X) (d := d + 3) Jw2 A.1 (show b < 10 by omega)
    have s2 := s_obB (X := X) (d := d + 2) Jw2 A (show b < 10 by omega)
    have c1 := c_hrB (X := X) (d := d + 1) Jw A.1 (show b < 10 by omega)
    have c2 := c_obB (X := X) (d := d) Jw A (show b < 10 by omega)
    simp only [hbC_th] at s1
    rw [obC_th] at s2
    by_cases zz : z = 0
    · subst zz
      refine ⟨nI (fb_sm (fun i => hbC h (D i) b (D i 6)) m), h, th h, ?_, ?_, w, agr.uI rfl agr.rfl⟩
      · simp (disch := first | ((repeat (first | with_reducible apply WF_uI | with_reducible apply WF_uL | with_reducible apply WF_th | with_reducible apply WF_fillL | with_reducible apply WF_fgt)); with_reducible assumption) | omega | (simp only [uI_1, uL_1, th_1, uI_R, uL_R]; with_reducible assumption)) only [e_171, b_171_0, ↓c_below', ↓c_within', ↓reduceIte, i10, av_cI_r, av_cL_r, av_cV_r, Option.bind_some, ↓zb_0, ↓zb_1, ↓zb_b, bI_0, tI_0, tI_1, tI_10, e10, q1, q2, Bool.true_eq_false, ↓is_0, c1]
      · simp (disch := first | ((repeat (first | with_reducible apply WF_uI | with_reducible apply WF_uL | with_reducible apply WF_th | with_reducible apply WF_fillL | with_reducible apply WF_fgt)); with_reducible assumption) | omega | (simp only [uI_1, uL_1, th_1, uI_R, uL_R]; with_reducible assumption)) only [e_357, b_357_0, ↓pI_137, th_e, ↓s_within', ↓reduceIte, i10, av_cI_r, av_cL_r, av_cV_r, Option.bind_some, ↓zb_0, ↓zb_1, ↓zb_b, bI_0, tI_0, tI_1, tI_9, q1, q2, Bool.true_eq_false, ↓is_137, s1]
    · refine ⟨nI (fb_ct (obC h m D T S F E K b) n), h, th h, ?_, ?_, w, agr.uI rfl agr.rfl⟩
      · simp (disch := first | ((repeat (first | with_reducible apply WF_uI | with_reducible apply WF_uL | with_reducible apply WF_th | with_reducible apply WF_fillL | with_reducible apply WF_fgt)); with_reducible assumption) | omega | (simp only [uI_1, uL_1, th_1, uI_R, uL_R]; with_reducible assumption)) only [e_171, b_171_0, ↓c_below', ↓c_within', ↓reduceIte, i10, av_cI_r, av_cL_r, av_cV_r, Option.bind_some, ↓zb_0, ↓zb_1, ↓zb_b, bI_0, tI_0, tI_1, tI_10, e10, q1, q2, Bool.true_eq_false, zz, ↓is_0, c2]
      · simp (disch := first | ((repeat (first | with_reducible apply WF_uI | with_reducible apply WF_uL | with_reducible apply WF_th | with_reducible apply WF_fillL | with_reducible apply WF_fgt)); with_reducible assumption) | omega | (simp only [uI_1, uL_1, th_1, uI_R, uL_R]; with_reducible assumption)) only [e_357, b_357_0, ↓pI_137, th_e, ↓s_within', ↓reduceIte, i10, av_cI_r, av_cL_r, av_cV_r, Option.bind_some, ↓zb_0, ↓zb_1, ↓zb_b, bI_0, tI_0, tI_1, tI_9, q1, q2, Bool.true_eq_false, zz, ↓is_137, s2]
theorem worst_lp (w : WF h) {H O : Nat → Nat} (hH : ∀ b, b < 10 → H b < 100000 ∧ (∀ e, ev X (e + 5) 228 [vr (some 0), vi (nI b)] h = av_rI (nI (H b)) h) ∧ (∀ e, ev X (e + 5) 355 [vr (some 137), vi (nI b)] (th h) = av_rI (nI (H b)) (th h))) (hO : ∀ b, b < 10 → (∀ e, ev X (e + 5) 229 [vr (some 0), vi (nI b)] h = av_rI (nI (O b)) h) ∧ (∀ e, ev X (e + 5) 356 [vr (some 137), vi (nI b)] (th h) = av_rI (nI (O b)) (th h))) : ∀ r b (st : Option Nat), b + r = 10 → (∀ a, st = some a → a < 10) → ∃ v,
    bd X (d + 5) 172 8 [(0, vr (some 0)), (1, vi (oI st)), (2, vi (match st with | none => 1 | some a => nI (H a))), (3, vi (match st with | none => 0 | some a => nI (O a))), (4, vi (nI b))] [] h = av_rI v h ∧
    bd X (d + 5) 358 7 [(0, vr (some 137)), (1, vi (oI st)), (2, vi (nI b))] [] (th h) = av_rI v (th h)
  | 0, b, st, hb, hs => by
    refine ⟨oI st, ?_, ?_⟩
    · rw [b_172_8, if_neg (show ¬ nI b < (10 : Int32) from nI_nlt (b := 10) (by omega) (by omega))]
    · rw [b_358_7, if_neg (show ¬ nI b < (10 : Int32) from nI_nlt (b := 10) (by omega) (by omega))]
  | r + 1, b, st, hb, hs => by
    have ih := fun st hs => worst_lp w hH hO r (b + 1) st (by omega) hs
    obtain ⟨l1, cH, sH⟩ := hH b (by omega)
    obtain ⟨cO, sO⟩ := hO b (by omega)
    rw [b_172_8, if_pos (show nI b < (10 : Int32) from nI_lt (b := 10) (by omega) (by omega)), is_0 w, cH, av_cI_r, Option.bind_some, is_0 w, cO, av_cI_r, Option.bind_some, b_358_7, if_pos (show nI b < (10 : Int32) from nI_lt (b := 10) (by omega) (by omega)), is_137 (WF_th w), sH, av_cI_r, Option.bind_some, nI_1]
    have e1 : bd X (d + 5) 358 31 [(0, vr (some 137)), (1, vi (oI st)), (2, vi (nI b))] [] (th h) = bd X (d + 5) 358 7 [(0, vr (some 137)), (1, vi (nI b)), (2, vi (nI (b + 1)))] [] (th h) := by
      rw [b_358_31, b_358_34, if_neg (by decide), nI_1]
    have e2 : bd X (d + 5) 358 33 [(0, vr (some 137)), (1, vi (oI st)), (2, vi (nI b))] [] (th h) = bd X (d + 5) 358 7 [(0, vr (some 137)), (1, vi (oI st)), (2, vi (nI (b + 1)))] [] (th h) := by
      rw [b_358_33, b_358_34, if_pos rfl, nI_1]
    by_cases q0 : 0 < H b
    · have q0' : (0 : Int32) < nI (H b) := nI_lt (a := 0) q0 (by omega)
      simp only [q0', if_true]
      cases st with
      | none =>
        obtain ⟨v, f1, f2⟩ := ih (some b) (fun a e => by rw [← Option.some.inj e]; omega)
        refine ⟨v, ?_, ?_⟩
        · rw [oI_n, if_pos rfl]
          exact f1
        · rw [oI_n, if_pos m1_lt, ← oI_n, e1]
          exact f2
      | some a =>
        have ha := hs a rfl
        obtain ⟨-, -, sHa⟩ := hH a ha
        obtain ⟨-, sOa⟩ := hO a ha
        have na : ¬ nI a = (-1 : Int32) := fun z => by
          have := congrArg Int32.toInt z
          rw [toI_nI (by omega)] at this
          have h1 : (-1 : Int32).toInt = -1 := by decide
          omega
        rw [oI_s] at e1 e2
        rw [oI_s, if_neg na, if_neg (nI_pos (by omega)), is_137 (WF_th w), sO, av_cI_r, Option.bind_some, is_137 (WF_th w), sHa, av_cI_r, Option.bind_some, is_137 (WF_th w), sOa, av_cI_r, Option.bind_some, e1, e2]
        by_cases q1 : nI (O a) * nI (H b) < nI (O b) * nI (H a)
        · obtain ⟨v, f1, f2⟩ := ih (some b) (fun a e => by rw [← Option.some.inj e]; omega)
          refine ⟨v, ?_, ?_⟩
          · rw [if_pos q1]
            exact f1
          · rw [if_pos q1]
            exact f2
        · obtain ⟨v, f1, f2⟩ := ih (some a) hs
          refine ⟨v, ?_, ?_⟩
          · rw [if_neg q1]
            exact f1
          · rw [if_neg q1]
            exact f2
    · have q0' : ¬ (0 : Int32) < nI (H b) := nI_nlt (a := 0) (b := H b) (by omega) (by omega)
      obtain ⟨v, f1, f2⟩ := ih st hs
      refine ⟨v, ?_, ?_⟩
      · rw [if_neg q0']
        exact f1
      · rw [if_neg q0', e2]
        exact f2
theorem worst_ok (w : WF h) (Jw : J_wi h) (Dp : J_dp h) (Co : J_co h) : ∃ v h1 h2, ev X (d + 6) 172 [vr (some 0)] h = av_rI v h1 ∧ ev X (d + 6) 358 [vr (some 137)] h1 = av_rI v h2 ∧ WF h2 ∧ off false [] [(137, 0)] h h2 := by
  have Jw2 : J_wi (th h) := Jw.fr (agr.uI rfl agr.rfl)
  obtain ⟨m, D, M, N, n, T, S, F, E, K, A⟩ := J_EC w Dp Co
  have h60 := A.1.2.2.1.1
  have dB := A.1.2.2.1.2.1
  have bd1 : ∀ b, fb_sm (fun i => hbC h (D i) b (D i 6)) m < 100000 := fun b => by
    have := fb_sm_bound (f := fun i => hbC h (D i) b (D i 6)) (c := 24) (n := m) (fun k hk => by
      obtain ⟨-, -, -, -, -, -, ⟨b6, b6'⟩, -⟩ := dB k hk
      exact Nat.le_trans (fb_ct_le _ _) (by omega))
    omega
  obtain ⟨v, e1, e2⟩ := worst_lp (X := X) (d := d) w (H := fun b => fb_sm (fun i => hbC h (D i) b (D i 6)) m) (O := fun b => fb_ct (obC h m D T S F E K b) n) (fun b hb => ⟨bd1 b, fun e => c_hrB (d := e + 1) Jw A.1 hb, fun e => by
      have := s_hrB (X := X) (d := e + 3) Jw2 A.1 hb
      simp only [hbC_th] at this
      exact this⟩) (fun b hb => ⟨fun e => c_obB (d := e) Jw A hb, fun e => by
      have := s_obB (X := X) (d := e + 2) Jw2 A hb
      rw [obC_th] at this
      exact this⟩) 10 0 none (by omega) (fun a e => by cases e)
  refine ⟨v, h, th h, ?_, ?_, w, agr.uI rfl agr.rfl⟩
  · rw [e_172, b_172_0]
    exact e1
  · rw [e_358, b_358_0, pI_137 w]
    exact e2
theorem week_lp {g : av_H} {m : Nat} {D : Nat → Nat → Nat} {M N : Nat → Nat} (E : EN h g m D M N) (t u : Int32) (y : Bool) {d' : Nat} : ∀ n i (v : Int32), i + n = m → ∃ r,
    bd X (d + 3) 230 4 [(0, vr (some 0)), (1, vi t), (2, vi u), (3, vi (bI y)), (4, vi v), (5, vi (nI i))] [] h = av_rI r h ∧
    bd X (d' + 1) 359 23 [(0, vr (some 137)), (1, vi t), (2, vi u), (3, vi (bI y)), (4, vi v), (5, vi (nI i))] [] g = bd X (d' + 1) 359 61 [(0, vr (some 137)), (1, vi t), (2, vi u), (3, vi (bI y)), (4, vi r), (5, vi 0)] [] g
  | 0, i, v, hi => by
    obtain ⟨w, w', Bd, C, R⟩ := E
    have h60 := Bd.1
    refine ⟨v, ?_, ?_⟩
    · rw [b_230_4, gIv_0_17 w C.1, if_neg (nI_nlt (by omega) (by omega))]
    · rw [b_359_23, gIv_137_45 w' R.1, if_neg (nI_nlt (by omega) (by omega))]
  | n + 1, i, v, hi => by
    have ih := fun v => week_lp E t u y (d' := d') n (i + 1) v (by omega)
    obtain ⟨w, w', Bd, ⟨c17, C⟩, ⟨r45, R⟩⟩ := E; have h60 := Bd.1; have lt : i < m := (by omega); have dB := Bd.2.1 i (by omega); have P := C i (by omega); have hD := P.1; have Q := R i (by omega); obtain ⟨p0, p1, p2, p4, p5, p6, p7, p8, p9, p12, p15, p16, p17, p13, p14, p10, p11, p18⟩ := R i (by omega)
    have y2 : bI y < (2 : Int32) := by cases y <;> decide
    by_cases q1 : nI (D i 0) = t
    · by_cases q2 : nI (D i 4) - nI (D i 4) / (7 : Int32) * (7 : Int32) = u
      · cases y with
        | false =>
          obtain ⟨r, e1, e2⟩ := ih (v + 1)
          refine ⟨r, ?_, ?_⟩
          · rw [b_230_4]
            simp (disch := first | ((repeat (first | with_reducible apply WF_uI | with_reducible apply WF_uL | with_reducible apply WF_th | with_reducible apply WF_fillL | with_reducible apply WF_fgt)); with_reducible assumption) | omega | (simp only [uI_1, uL_1, th_1, uI_R, uL_R]; with_reducible assumption)) only [↓gIv_0_17 (v := nI m), nI_ltI, lt, ↓gR_0_13, ↓dr_l, ↓dr_is, ↓dr_g (D := D i), ↓c_within', ↓reduceIte, i10, av_cI_r, av_cL_r, av_cV_r, Option.bind_some, ↓zb_0, ↓zb_1, ↓zb_b, bI_0, Bool.true_eq_false, nI_1, i70,  q1, q2, e1]
          · rw [b_359_23]
            simp (disch := first | ((repeat (first | with_reducible apply WF_uI | with_reducible apply WF_uL | with_reducible apply WF_th | with_reducible apply WF_fillL | with_reducible apply WF_fgt)); with_reducible assumption) | omega | (simp only [uI_1, uL_1, th_1, uI_R, uL_R]; with_reducible assumption)) only [↓gIv_137_45 (v := nI m), nI_ltI, lt, ↓is_137, ↓s_within', ↓reduceIte, i10, av_cI_r, av_cL_r, av_cV_r, Option.bind_some, ↓zb_0, ↓zb_1, ↓zb_b, bI_0, Bool.true_eq_false, nI_1, Int32.add_zero, i70, p0, p1, p2, p4, p5, p6, p7, p8, p9, p12, p15, p16, p17, p13, p14, p10, p11,  ↓gR_137_46, ↓gR_137_49, ↓ld_168, ↓ld_171, y2, q1, q2, e2]
        | true =>
          obtain ⟨r, e1, e2⟩ := ih (v + nI (D i 6))
          refine ⟨r, ?_, ?_⟩
          · rw [b_230_4]
            simp (disch := first | ((repeat (first | with_reducible apply WF_uI | with_reducible apply WF_uL | with_reducible apply WF_th | with_reducible apply WF_fillL | with_reducible apply WF_fgt)); with_reducible assumption) | omega | (simp only [uI_1, uL_1, th_1, uI_R, uL_R]; with_reducible assumption)) only [↓gIv_0_17 (v := nI m), nI_ltI, lt, ↓gR_0_13, ↓dr_l, ↓dr_is, ↓dr_g (D := D i), ↓c_within', ↓reduceIte, i10, av_cI_r, av_cL_r, av_cV_r, Option.bind_some, ↓zb_0, ↓zb_1, ↓zb_b, bI_0, Bool.true_eq_false, nI_1, i70,  q1, q2, e1]
          · rw [b_359_23]
            simp (disch := first | ((repeat (first | with_reducible apply WF_uI | with_reducible apply WF_uL | with_reducible apply WF_th | with_reducible apply WF_fillL | with_reducible apply WF_fgt)); with_reducible assumption) | omega | (simp only [uI_1, uL_1, th_1, uI_R, uL_R]; with_reducible assumption)) only [↓gIv_137_45 (v := nI m), nI_ltI, lt, ↓is_137, ↓s_within', ↓reduceIte, i10, av_cI_r, av_cL_r, av_cV_r, Option.bind_some, ↓zb_0, ↓zb_1, ↓zb_b, bI_0, Bool.true_eq_false, nI_1, Int32.add_zero, i70, p0, p1, p2, p4, p5, p6, p7, p8, p9, p12, p15, p16, p17, p13, p14, p10, p11,  ↓gR_137_46, ↓gR_137_49, ↓gR_137_51, ↓ld_168, ↓ld_171, ↓ld_173, y2, q1, q2, e2]
      · obtain ⟨r, e1, e2⟩ := ih v
        refine ⟨r, ?_, ?_⟩
        · rw [b_230_4]
          simp (disch := first | ((repeat (first | with_reducible apply WF_uI | with_reducible apply WF_uL | with_reducible apply WF_th | with_reducible apply WF_fillL | with_reducible apply WF_fgt)); with_reducible assumption) | omega | (simp only [uI_1, uL_1, th_1, uI_R, uL_R]; with_reducible assumption)) only [↓gIv_0_17 (v := nI m), nI_ltI, lt, ↓gR_0_13, ↓dr_l, ↓dr_is, ↓dr_g (D := D i), ↓c_within', ↓reduceIte, i10, av_cI_r, av_cL_r, av_cV_r, Option.bind_some, ↓zb_0, ↓zb_1, ↓zb_b, bI_0, Bool.true_eq_false, nI_1, i70,  q1, q2, e1]
        · rw [b_359_23]
          simp (disch := first | ((repeat (first | with_reducible apply WF_uI | with_reducible apply WF_uL | with_reducible apply WF_th | with_reducible apply WF_fillL | with_reducible apply WF_fgt)); with_reducible assumption) | omega | (simp only [uI_1, uL_1, th_1, uI_R, uL_R]; with_reducible assumption)) only [↓gIv_137_45 (v := nI m), nI_ltI, lt, ↓is_137, ↓s_within', ↓reduceIte, i10, av_cI_r, av_cL_r, av_cV_r, Option.bind_some, ↓zb_0, ↓zb_1, ↓zb_b, bI_0, Bool.true_eq_false, nI_1, Int32.add_zero, i70, p0, p1, p2, p4, p5, p6, p7, p8, p9, p12, p15, p16, p17, p13, p14, p10, p11,  ↓gR_137_46, ↓gR_137_49, ↓ld_168, ↓ld_171, y2, q1, q2, e2]
    · obtain ⟨r, e1, e2⟩ := ih v
      refine ⟨r, ?_, ?_⟩
      · rw [b_230_4]
        simp (disch := first | ((repeat (first | with_reducible apply WF_uI | with_reducible apply WF_uL | with_reducible apply WF_th | with_reducible apply WF_fillL | with_reducible apply WF_fgt)); with_reducible assumption) | omega | (simp only [uI_1, uL_1, th_1, uI_R, uL_R]; with_reducible assumption)) only [↓gIv_0_17 (v := nI m), nI_ltI, lt, ↓gR_0_13, ↓dr_l, ↓dr_is, ↓dr_g (D := D i), ↓c_within', ↓reduceIte, i10, av_cI_r, av_cL_r, av_cV_r, Option.bind_some, ↓zb_0, ↓zb_1, ↓zb_b, bI_0, Bool.true_eq_false, nI_1, i70,  q1, e1]
      · rw [b_359_23]
        simp (disch := first | ((repeat (first | with_reducible apply WF_uI | with_reducible apply WF_uL | with_reducible apply WF_th | with_reducible apply WF_fillL | with_reducible apply WF_fgt)); with_reducible assumption) | omega | (simp only [uI_1, uL_1, th_1, uI_R, uL_R]; with_reducible assumption)) only [↓gIv_137_45 (v := nI m), nI_ltI, lt, ↓is_137, ↓s_within', ↓reduceIte, i10, av_cI_r, av_cL_r, av_cV_r, Option.bind_some, ↓zb_0, ↓zb_1, ↓zb_b, bI_0, Bool.true_eq_false, nI_1, Int32.add_zero, i70, p0, p1, p2, p4, p5, p6, p7, p8, p9, p12, p15, p16, p17, p13, p14, p10, p11,  ↓gR_137_46, ↓ld_168, y2, q1, e2]
theorem week2_lp {g : av_H} (w : WF h) (w' : WF g) {n : Nat} {T S F E K : Nat → Nat} (cb : coB n T S F E K) (cc : coC h n T S F E K) (cq : coQ g n T S F E K) {t : Nat} (ht : t < 6) (u : Int32) {d' : Nat} : ∀ r c (v : Int32), c + r = n → ∃ z,
    bd X d 231 4 [(0, vr (some 0)), (1, vi (nI t)), (2, vi u), (3, vi v), (4, vi (nI c))] [] h = av_rI z h ∧
    bd X d' 359 61 [(0, vr (some 137)), (1, vi (nI t)), (2, vi u), (3, vi 2), (4, vi v), (5, vi (nI c))] [] g = av_rI z g
  | 0, c, v, hc => by
    have h40 := cb.1
    refine ⟨v, ?_, ?_⟩
    · rw [b_231_4, gR_0_5 w, gIv_21_5 w cc.1, if_neg (nI_nlt (by omega) (by omega))]
    · rw [b_359_61, gIv_137_92 w' cq.1, if_neg (nI_nlt (by omega) (by omega))]
  | r + 1, c, v, hc => by
    have ih := fun v => week2_lp w w' cb cc cq ht u (d' := d') r (c + 1) v (by omega)
    have h40 := cb.1
    obtain ⟨a1, a2, a3, a4, a5⟩ := cb.2 c (by omega)
    obtain ⟨e1, e2, e3⟩ := cc.2 c (by omega)
    obtain ⟨f1, f2, f3, f4, f5⟩ := cq.2 c (by omega)
    have v1 : nI ((T c * 4 + S c) * 12 + F c) / (48 : Int32) = nI (T c) := by
      rw [show (48 : Int32) = nI 48 from rfl, pk_div (by omega) (by omega) (by omega)]
      congr 1
      omega
    rw [b_231_4, gR_0_5 w, gIv_21_5 w cc.1, if_pos (nI_lt (by omega) (by omega)), gR_0_5 w, gR_21_0 w, ld_22 w (by omega), e1, if_neg (by decide), v1, b_359_61, gIv_137_92 w' cq.1, if_pos (nI_lt (by omega) (by omega)), if_pos rfl, gR_137_93 w', ld_210 w' (by omega), f1, nI_1, Int32.add_zero]
    by_cases q1 : T c = t
    · have q1' : nI (T c) = nI t := congrArg nI q1
      simp (disch := first | ((repeat (first | with_reducible apply WF_uI | with_reducible apply WF_uL | with_reducible apply WF_th | with_reducible apply WF_fillL | with_reducible apply WF_fgt)); with_reducible assumption) | omega | (simp only [uI_1, uL_1, th_1, uI_R, uL_R]; with_reducible assumption)) only [q1', ↓reduceIte, ↓gR_0_5, ↓gR_21_1, ↓ld_23, e2, ↓gR_137_96, ↓ld_213, f4, i70]
      by_cases q2 : nI (E c) - nI (E c) / (7 : Int32) * (7 : Int32) = u
      · simp only [q2, ↓reduceIte]
        exact ih (v + 1)
      · simp only [q2, ↓reduceIte]
        exact ih v
    · have q1' : ¬ nI (T c) = nI t := fun y => q1 ((nI_eq (by omega) (by omega)).mp y)
      simp only [q1', ↓reduceIte]
      exact ih v
theorem week_ok (w : WF h) (J : J_tow h) (Dp : J_dp h) (Co : J_co h) (t u z : Int32) : ∃ v h1 h2, ev X (d + 6) 173 [vr (some 0), vi t, vi u, vi z] h = av_rI v h1 ∧ ev X (d + 6) 359 [vr (some 137), vi t, vi u, vi z] h1 = av_rI v h2 ∧ WF h2 ∧ off false [] [(137, 0)] h h2 := by
  have e7 : ∀ v : Int32, rg v 0 ((7 : Int) - 1) = rg v 0 6 := fun _ => rfl
  obtain ⟨m, D, M, N, n, T, S, F, E, K, A⟩ := J_EC w Dp Co
  obtain ⟨En, fl, cb, cc, cq⟩ := A
  have h40 := cb.1
  have h60 := En.2.2.1.1
  have w' := En.2.1
  cases ok : (told h t && rg u 0 6 && rg z 0 2) with
  | false =>
    refine ⟨-1, h, th h, ?_, ?_, w, agr.uI rfl agr.rfl⟩
    · rcases bdi (told h t) with q1 | q1
      · simp (disch := first | ((repeat (first | with_reducible apply WF_uI | with_reducible apply WF_uL | with_reducible apply WF_th | with_reducible apply WF_fillL | with_reducible apply WF_fgt)); with_reducible assumption) | omega | (simp only [uI_1, uL_1, th_1, uI_R, uL_R]; with_reducible assumption)) only [e_173, b_173_0, ↓is_0, ↓c_isTold', ↓c_below', ↓c_within', ↓reduceIte, i10, av_cI_r, av_cL_r, av_cV_r, Option.bind_some, ↓zb_0, ↓zb_1, ↓zb_b, bI_0, tI_0, tI_2, tI_7, e7, q1, Bool.true_eq_false]
      rcases bdi (rg u 0 6) with q2 | q2
      · simp (disch := first | ((repeat (first | with_reducible apply WF_uI | with_reducible apply WF_uL | with_reducible apply WF_th | with_reducible apply WF_fillL | with_reducible apply WF_fgt)); with_reducible assumption) | omega | (simp only [uI_1, uL_1, th_1, uI_R, uL_R]; with_reducible assumption)) only [e_173, b_173_0, ↓is_0, ↓c_isTold', ↓c_below', ↓c_within', ↓reduceIte, i10, av_cI_r, av_cL_r, av_cV_r, Option.bind_some, ↓zb_0, ↓zb_1, ↓zb_b, bI_0, tI_0, tI_2, tI_7, e7, q1, q2, Bool.true_eq_false]
      rcases bdi (rg z 0 2) with q3 | q3
      · simp (disch := first | ((repeat (first | with_reducible apply WF_uI | with_reducible apply WF_uL | with_reducible apply WF_th | with_reducible apply WF_fillL | with_reducible apply WF_fgt)); with_reducible assumption) | omega | (simp only [uI_1, uL_1, th_1, uI_R, uL_R]; with_reducible assumption)) only [e_173, b_173_0, ↓is_0, ↓c_isTold', ↓c_below', ↓c_within', ↓reduceIte, i10, av_cI_r, av_cL_r, av_cV_r, Option.bind_some, ↓zb_0, ↓zb_1, ↓zb_b, bI_0, tI_0, tI_2, tI_7, e7, q1, q2, q3, Bool.true_eq_false]
      simp [q1, q2, q3] at ok
    · rcases bdi (told h t) with q1 | q1
      · simp (disch := first | ((repeat (first | with_reducible apply WF_uI | with_reducible apply WF_uL | with_reducible apply WF_th | with_reducible apply WF_fillL | with_reducible apply WF_fgt)); with_reducible assumption) | omega | (simp only [uI_1, uL_1, th_1, uI_R, uL_R]; with_reducible assumption)) only [e_359, b_359_0, ↓pI_137, th_e, ↓is_137, ↓s_isTower', ↓s_within', told_th, ↓reduceIte, i10, av_cI_r, av_cL_r, av_cV_r, Option.bind_some, ↓zb_0, ↓zb_1, ↓zb_b, bI_0, tI_0, tI_2, tI_6, q1, Bool.true_eq_false]
      rcases bdi (rg u 0 6) with q2 | q2
      · simp (disch := first | ((repeat (first | with_reducible apply WF_uI | with_reducible apply WF_uL | with_reducible apply WF_th | with_reducible apply WF_fillL | with_reducible apply WF_fgt)); with_reducible assumption) | omega | (simp only [uI_1, uL_1, th_1, uI_R, uL_R]; with_reducible assumption)) only [e_359, b_359_0, ↓pI_137, th_e, ↓is_137, ↓s_isTower', ↓s_within', told_th, ↓reduceIte, i10, av_cI_r, av_cL_r, av_cV_r, Option.bind_some, ↓zb_0, ↓zb_1, ↓zb_b, bI_0, tI_0, tI_2, tI_6, q1, q2, Bool.true_eq_false]
      rcases bdi (rg z 0 2) with q3 | q3
      · simp (disch := first | ((repeat (first | with_reducible apply WF_uI | with_reducible apply WF_uL | with_reducible apply WF_th | with_reducible apply WF_fillL | with_reducible apply WF_fgt)); with_reducible assumption) | omega | (simp only [uI_1, uL_1, th_1, uI_R, uL_R]; with_reducible assumption)) only [e_359, b_359_0, ↓pI_137, th_e, ↓is_137, ↓s_isTower', ↓s_within', told_th, ↓reduceIte, i10, av_cI_r, av_cL_r, av_cV_r, Option.bind_some, ↓zb_0, ↓zb_1, ↓zb_b, bI_0, tI_0, tI_2, tI_6, q1, q2, q3, Bool.true_eq_false]
      simp [q1, q2, q3] at ok
  | true =>
    obtain ⟨⟨q1, q2⟩, q3⟩ : (told h t = true ∧ rg u 0 6 = true) ∧ rg z 0 2 = true := by simpa only [Bool.and_eq_true] using ok
    obtain ⟨t, a, h6, rfl, hj, T0⟩ := told_ex J q1
    have C0 : ∀ (v : Int32), (z = 2 → ev X (d + 5) 231 [vr (some 0), vi (nI t), vi u] h = av_rI v h) → (¬ z = 2 → z = 1 → ev X (d + 5) 230 [vr (some 0), vi (nI t), vi u, vi 1] h = av_rI v h) → (¬ z = 2 → ¬ z = 1 → ev X (d + 5) 230 [vr (some 0), vi (nI t), vi u, vi 0] h = av_rI v h) → ev X (d + 6) 173 [vr (some 0), vi (nI t), vi u, vi z] h = av_rI v h := fun v x1 x2 x3 => by
      by_cases z2 : z = 2
      · simp (disch := first | ((repeat (first | with_reducible apply WF_uI | with_reducible apply WF_uL | with_reducible apply WF_th | with_reducible apply WF_fillL | with_reducible apply WF_fgt)); with_reducible assumption) | omega | (simp only [uI_1, uL_1, th_1, uI_R, uL_R]; with_reducible assumption)) only [e_173, b_173_0, ↓is_0, ↓c_isTold', ↓c_below', ↓c_within', ↓reduceIte, i10, av_cI_r, av_cL_r, av_cV_r, Option.bind_some, ↓zb_0, ↓zb_1, ↓zb_b, bI_0, tI_0, tI_2, tI_7, e7, q1, q2, q3, Bool.true_eq_false, z2, ↓reduceIte, x1 z2]
        simp only [z2] at q3
        simp only [q3, Bool.true_eq_false, ↓reduceIte]
      · by_cases z1 : z = 1
        · simp (disch := first | ((repeat (first | with_reducible apply WF_uI | with_reducible apply WF_uL | with_reducible apply WF_th | with_reducible apply WF_fillL | with_reducible apply WF_fgt)); with_reducible assumption) | omega | (simp only [uI_1, uL_1, th_1, uI_R, uL_R]; with_reducible assumption)) only [e_173, b_173_0, ↓is_0, ↓c_isTold', ↓c_below', ↓c_within', ↓reduceIte, i10, av_cI_r, av_cL_r, av_cV_r, Option.bind_some, ↓zb_0, ↓zb_1, ↓zb_b, bI_0, tI_0, tI_2, tI_7, e7, q1, q2, q3, Bool.true_eq_false, z2, ↓reduceIte]
          rw [if_pos z1, x2 z2 z1]
          rfl
        · simp (disch := first | ((repeat (first | with_reducible apply WF_uI | with_reducible apply WF_uL | with_reducible apply WF_th | with_reducible apply WF_fillL | with_reducible apply WF_fgt)); with_reducible assumption) | omega | (simp only [uI_1, uL_1, th_1, uI_R, uL_R]; with_reducible assumption)) only [e_173, b_173_0, ↓is_0, ↓c_isTold', ↓c_below', ↓c_within', ↓reduceIte, i10, av_cI_r, av_cL_r, av_cV_r, Option.bind_some, ↓zb_0, ↓zb_1, ↓zb_b, bI_0, tI_0, tI_2, tI_7, e7, q1, q2, q3, Bool.true_eq_false, z2, z1, ↓reduceIte, x3 z2 z1]
    have R0 : ev X (d + 6) 359 [vr (some 137), vi (nI t), vi u, vi z] h = bd X (d + 5) 359 23 [(0, vr (some 137)), (1, vi (nI t)), (2, vi u), (3, vi z), (4, vi 0), (5, vi 0)] [] (th h) := by
      simp (disch := first | ((repeat (first | with_reducible apply WF_uI | with_reducible apply WF_uL | with_reducible apply WF_th | with_reducible apply WF_fillL | with_reducible apply WF_fgt)); with_reducible assumption) | omega | (simp only [uI_1, uL_1, th_1, uI_R, uL_R]; with_reducible assumption)) only [e_359, b_359_0, ↓pI_137, th_e, ↓is_137, ↓s_isTower', ↓s_within', told_th, ↓reduceIte, i10, av_cI_r, av_cL_r, av_cV_r, Option.bind_some, ↓zb_0, ↓zb_1, ↓zb_b, bI_0, tI_0, tI_2, tI_6, q1, q2, q3, Bool.true_eq_false]
    by_cases z2 : z = 2
    · obtain ⟨v, e1, e2⟩ := week2_lp (X := X) (d := d + 4) (d' := d + 5) w w' cb cc cq h6 u n 0 0 (by omega)
      refine ⟨v, h, th h, C0 v (fun _ => by rw [e_231, b_231_0]; exact e1) (fun y => absurd z2 y) (fun y => absurd z2 y), ?_, w, agr.uI rfl agr.rfl⟩
      rw [R0, z2, b_359_23, gIv_137_45 w' En.2.2.2.2.1]
      by_cases m0 : m = 0
      · rw [if_neg (show ¬ (0 : Int32) < nI m by rw [m0]; decide)]
        exact e2
      · rw [if_pos (show (0 : Int32) < nI m from nI_lt (a := 0) (by omega) (by omega)), if_neg (by decide)]
        exact e2
    · have R1 : ∀ (y : Bool) (v : Int32), bd X (d + 5) 359 61 [(0, vr (some 137)), (1, vi (nI t)), (2, vi u), (3, vi (bI y)), (4, vi v), (5, vi 0)] [] (th h) = av_rI v (th h) := fun y v => by
        rw [b_359_61, gIv_137_92 w' cq.1]
        split
        · rw [if_neg (show ¬ bI y = (2 : Int32) by cases y <;> decide)]
        · rfl
      by_cases z1 : z = 1
      · obtain ⟨v, e1, e2⟩ := week_lp (X := X) (d := d + 1) (d' := d + 4) En (nI t) u true m 0 0 (by omega)
        refine ⟨v, h, th h, C0 v (fun y => absurd y z2) (fun _ _ => by rw [e_230, b_230_0]; exact e1) (fun _ y => absurd z1 y), ?_, w, agr.uI rfl agr.rfl⟩
        rw [R0, z1]
        exact e2.trans (R1 true v)
      · have z0 : z = 0 := by
          obtain ⟨k, hk, rfl⟩ := rg_nI (b := 2) (by decide) q3
          have k2 : k ≠ 2 := fun e => z2 (by rw [e]; rfl)
          have k1 : k ≠ 1 := fun e => z1 (by rw [e]; rfl)
          rw [show k = 0 by omega]
          rfl
        obtain ⟨v, e1, e2⟩ := week_lp (X := X) (d := d + 1) (d' := d + 4) En (nI t) u false m 0 0 (by omega)
        refine ⟨v, h, th h, C0 v (fun y => absurd y z2) (fun _ y => absurd y z1) (fun _ _ => by rw [e_230, b_230_0]; exact e1), ?_, w, agr.uI rfl agr.rfl⟩
        rw [R0, z0]
        exact e2.trans (R1 false v)
end
