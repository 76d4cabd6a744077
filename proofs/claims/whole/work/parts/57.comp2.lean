/-! ours, band, worst, week: the loops -/
/-- the first of n -/
def fst_ (p : Nat → Bool) : Nat → Option Nat
  | 0 => none
  | n + 1 => match fst_ p n with
    | some j => some j
    | none => if p n = true then some n else none
theorem fst_lt {p : Nat → Bool} : ∀ {n j : Nat}, fst_ p n = some j → j < n
  | 0, j, e => by cases e
  | n + 1, j, e => by
    rw [fst_] at e
    split at e
    · rename_i k q
      rw [← Option.some.inj e]
      exact Nat.lt_succ_of_lt (fst_lt q)
    · split at e
      · rw [← Option.some.inj e]
        exact Nat.lt_succ_self n
      · cases e
theorem ct_any {p : Nat → Bool} : ∀ n, (decide (0 < fb_ct p n)) = anyN n 0 p := fun n => by
  rw [Bool.eq_iff_iff, decide_eq_true_eq, fb_ct_pos, anyN_iff]
  simp
section
variable {X : av_X} {d : Nat} {h : av_H}
/-- both sides: drops and complaints -/
def EC (h g : av_H) (m : Nat) (D : Nat → Nat → Nat) (M N : Nat → Nat) (n : Nat) (T S F E K : Nat → Nat) : Prop := EN h g m D M N ∧ (∀ i, i < m → g.2.1 143 (D i 0) = nI (D i 3)) ∧ coB n T S F E K ∧ coC h n T S F E K ∧ coQ g n T S F E K
theorem ours_c {g : av_H} {m n : Nat} {D : Nat → Nat → Nat} {M N T S F E K : Nat → Nat} (A : EC h g m D M N n T S F E K) {c : Nat} (hc : c < n) (z : Int32) : ∀ k (v3 v4 : Int32), k ≤ m → bd X (d + 3) 170 22 [(0, vr (some 0)), (1, vi (nI c)), (2, vi z), (3, vi v3), (4, vi v4), (5, vi (nI k - 1))] [] h = av_rI (if z = 0 then v3 + nI (fb_ct (fun i => psB (D i) (T c) (S c) (F c) (E c) (K c)) k) else match fst_ (fun i => psB (D i) (T c) (S c) (F c) (E c) (K c)) k with | some j => nI j | none => v4) h
  | 0, v3, v4, _ => by
    rw [b_170_22, if_pos (by decide)]
    by_cases q : z = 0
    · rw [if_pos q, if_pos q]
      show av_rI v3 h = av_rI (v3 + 0) h
      rw [Int32.add_zero]
    · rw [if_neg q, if_neg q]
      rfl
  | j + 1, v3, v4, hj => by
    have ih := fun v3 v4 => ours_c A hc z j v3 v4 (by omega)
    obtain ⟨⟨w, w', Bd, ⟨c17, C⟩, -⟩, -, cb, cc, -⟩ := A
    have h60 := Bd.1
    rw [b_170_22, nI_pred, if_neg (nI_pos (by omega)), gR_0_13 w, dr_l w (by omega), is_0 w, c_cause' w (by omega) (C j (by omega)) (Bd.2.1 j (by omega)) cb cc hc, fb_ct, fst_]
    cases q : psB (D j) (T c) (S c) (F c) (E c) (K c) with
    | false =>
      rw [if_pos (show bI false = 0 from rfl), m1s, ih]
      by_cases zz : z = 0
      · rw [if_pos zz, if_pos zz]
        rfl
      · rw [if_neg zz, if_neg zz]
        cases fst_ (fun i => psB (D i) (T c) (S c) (F c) (E c) (K c)) j <;> rfl
    | true =>
      rw [if_neg (show ¬ bI true = 0 by decide), m1s, ih]
      by_cases zz : z = 0
      · rw [if_pos zz, if_pos zz, Int32.add_assoc]
        congr 2
        show nI 1 + nI _ = _
        rw [nI_add, Nat.add_comm]
        rfl
      · rw [if_neg zz, if_neg zz]
        cases fst_ (fun i => psB (D i) (T c) (S c) (F c) (E c) (K c)) j <;> rfl
theorem ours_s {g : av_H} {m n : Nat} {D : Nat → Nat → Nat} {M N T S F E K : Nat → Nat} (A : EC h g m D M N n T S F E K) {c : Nat} (hc : c < n) (z : Int32) : ∀ r i, i + r = m → bd X (d + 1) 353 22 [(0, vr (some 137)), (1, vi (nI c)), (2, vi z), (3, vi (nI (fb_ct (fun i => psB (D i) (T c) (S c) (F c) (E c) (K c)) i))), (4, vi (oI (fst_ (fun i => psB (D i) (T c) (S c) (F c) (E c) (K c)) i))), (5, vi (nI i))] [] g = av_rI (if z = 0 then nI (fb_ct (fun i => psB (D i) (T c) (S c) (F c) (E c) (K c)) m) else oI (fst_ (fun i => psB (D i) (T c) (S c) (F c) (E c) (K c)) m)) g
  | 0, i, hi => by
    obtain ⟨⟨w, w', Bd, -, ⟨r45, R⟩⟩, -⟩ := A
    have h60 := Bd.1
    obtain rfl : i = m := by omega
    rw [b_353_22, gIv_137_45 w' r45, if_neg (nI_nlt (by omega) (by omega))]
    split <;> rfl
  | r + 1, i, hi => by
    have ih := ours_s A hc z r (i + 1) (by omega)
    obtain ⟨⟨w, w', Bd, -, ⟨r45, R⟩⟩, fl, cb, -, cq⟩ := A
    have h60 := Bd.1
    rw [b_353_22, gIv_137_45 w' r45, if_pos (nI_lt (by omega) (by omega)), is_137 w', s_pass' w' (by omega) (R i (by omega)) (Bd.2.1 i (by omega)) cb cq hc (fl i (by omega)), nI_1]
    rw [fb_ct, fst_] at ih
    cases q : psB (D i) (T c) (S c) (F c) (E c) (K c) with
    | false =>
      rw [q] at ih
      rw [if_pos (show bI false = 0 from rfl)]
      refine Eq.trans ?_ ih
      cases fst_ (fun i => psB (D i) (T c) (S c) (F c) (E c) (K c)) i <;> rfl
    | true =>
      rw [q] at ih
      rw [if_neg (show ¬ bI true = 0 by decide), nI_1]
      cases q2 : fst_ (fun i => psB (D i) (T c) (S c) (F c) (E c) (K c)) i with
      | none =>
        rw [q2] at ih
        rw [oI_n, if_pos m1_lt]
        exact ih
      | some j =>
        rw [q2] at ih
        have := fst_lt q2
        rw [oI_s, if_neg (nI_pos (by omega))]
        exact ih
theorem J_EC (w : WF h) (Dp : J_dp h) (Co : J_co h) : ∃ m D M N n T S F E K, EC h (th h) m D M N n T S F E K := by
  obtain ⟨m, D, M, N, A, W⟩ := Dp.EN w
  obtain ⟨n, T, S, F, E, K, c1, c2, c3⟩ := Co.E
  refine ⟨m, D, M, N, n, T, S, F, E, K, A, fun i hi => by rw [th_I (by decide)]; exact W.2 i hi, c1, c2, ?_⟩
  unfold coQ at c3 ⊢
  simp (disch := omega) only [th_I, th_k]
  exact c3
theorem th_th : th (th h) = th h := by
  have : va_up (va_up h.2.1 137 (upd (h.2.1 137) 0 0)) 137 (upd (va_up h.2.1 137 (upd (h.2.1 137) 0 0) 137) 0 0) = va_up h.2.1 137 (upd (h.2.1 137) 0 0) := by
    funext b j
    by_cases e : b = 137
    · subst e
      rw [va_up_self, va_up_self]
      by_cases e2 : j = 0
      · subst e2
        rw [pk_us, pk_us]
      · rw [pk_un e2]
    · rw [va_up_ne _ _ e]
  simp only [th, av_uI, this]
theorem ours_ok (w : WF h) (Dp : J_dp h) (Co : J_co h) (c z : Int32) : ∃ v h1 h2, ev X (d + 5) 170 [vr (some 0), vi c, vi z] h = av_rI v h1 ∧ ev X (d + 5) 353 [vr (some 137), vi c, vi z] h1 = av_rI v h2 ∧ WF h2 ∧ off false [] [(137, 0)] h h2 := by
  obtain ⟨m, D, M, N, n, T, S, F, E, K, A⟩ := J_EC w Dp Co
  have A0 := A
  obtain ⟨⟨-, w', Bd, ⟨c17, C⟩, ⟨r45, R⟩⟩, fl, cb, cc, cq⟩ := A
  have h60 := Bd.1
  have h40 := cb.1
  have r92 := cq.1
  cases ok : (rg c 0 ((n : Int) - 1) && rg z 0 1) with
  | false =>
    refine ⟨-1, h, th h, ?_, ?_, w, agr.uI rfl agr.rfl⟩
    · rcases bdi (rg c 0 ((n : Int) - 1)) with q1 | q1
      · simp (disch := first | ((repeat (first | with_reducible apply WF_uI | with_reducible apply WF_uL | with_reducible apply WF_th | with_reducible apply WF_fillL | with_reducible apply WF_fgt)); with_reducible assumption) | omega | (simp only [uI_1, uL_1, th_1, uI_R, uL_R]; with_reducible assumption)) only [e_170, b_170_0, ↓gR_0_5, ↓gIv_21_5 (v := nI n) w cc.1, ↓c_below', ↓c_within', toI_nI, ↓reduceIte, i10, av_cI_r, av_cL_r, av_cV_r, Option.bind_some, ↓zb_0, ↓zb_1, ↓zb_b, bI_0, tI_0, tI_1, q1, Bool.true_eq_false]
      rcases bdi (rg z 0 1) with q2 | q2
      · simp (disch := first | ((repeat (first | with_reducible apply WF_uI | with_reducible apply WF_uL | with_reducible apply WF_th | with_reducible apply WF_fillL | with_reducible apply WF_fgt)); with_reducible assumption) | omega | (simp only [uI_1, uL_1, th_1, uI_R, uL_R]; with_reducible assumption)) only [e_170, b_170_0, ↓gR_0_5, ↓gIv_21_5 (v := nI n) w cc.1, ↓c_below', ↓c_within', toI_nI, ↓reduceIte, i10, av_cI_r, av_cL_r, av_cV_r, Option.bind_some, ↓zb_0, ↓zb_1, ↓zb_b, bI_0, tI_0, tI_1, q1, q2, Bool.true_eq_false]
      simp [q1, q2] at ok
    · rw [e_353, b_353_0, pI_137 w, th_e]
      by_cases y : c < 0
      · rw [if_pos y]
      · rw [if_neg y, gIv_137_92 w' r92]
        by_cases y2 : c < nI n
        · rw [if_pos y2, s_within']
          have y3 : rg c 0 ((n : Int) - 1) = true := by
            rw [rg, decide_eq_true_eq]
            rw [i_lt] at y y2
            rw [tI_0] at y
            rw [toI_nI (by omega)] at y2
            omega
          have y4 : rg z 0 1 = false := by simpa [y3] using ok
          rw [show rg z (0 : Int32).toInt (1 : Int32).toInt = false from y4, if_pos (show bI false = 0 from rfl)]
        · rw [if_neg y2]
  | true =>
    obtain ⟨q1, q2⟩ : rg c 0 ((n : Int) - 1) = true ∧ rg z 0 1 = true := by simpa only [Bool.and_eq_true] using ok
    have n0 : 1 ≤ n := by
      simp only [rg, decide_eq_true_eq] at q1
      omega
    obtain ⟨c, hc, rfl⟩ := rg_nI (b := n - 1) (by omega) (by rw [show ((n - 1 : Nat) : Int) = (n : Int) - 1 by omega]; exact q1)
    refine ⟨if z = 0 then nI (fb_ct (fun i => psB (D i) (T c) (S c) (F c) (E c) (K c)) m) else oI (fst_ (fun i => psB (D i) (T c) (S c) (F c) (E c) (K c)) m), h, th h, ?_, ?_, w, agr.uI rfl agr.rfl⟩
    · simp (disch := first | ((repeat (first | with_reducible apply WF_uI | with_reducible apply WF_uL | with_reducible apply WF_th | with_reducible apply WF_fillL | with_reducible apply WF_fgt)); with_reducible assumption) | omega | (simp only [uI_1, uL_1, th_1, uI_R, uL_R]; with_reducible assumption)) only [e_170, b_170_0, ↓gR_0_5, ↓gIv_21_5 (v := nI n) w cc.1, ↓c_below', ↓c_within', toI_nI, ↓reduceIte, i10, av_cI_r, av_cL_r, av_cV_r, Option.bind_some, ↓zb_0, ↓zb_1, ↓zb_b, bI_0, tI_0, tI_1, q1, q2, Bool.true_eq_false, ↓gIv_0_17 (v := nI m) w c17]
      rw [ours_c (d := d + 1) A0 (by omega) z m 0 (-1) (Nat.le_refl m)]
      by_cases zz : z = 0
      · rw [if_pos zz, if_pos zz, Int32.zero_add]
      · rw [if_neg zz, if_neg zz]
        cases fst_ (fun i => psB (D i) (T c) (S c) (F c) (E c) (K c)) m <;> rfl
    · rw [e_353, b_353_0, pI_137 w, th_e, if_neg (nI_pos (by omega)), gIv_137_92 w' r92, if_pos (nI_lt (by omega) (by omega)), s_within', show rg z (0 : Int32).toInt (1 : Int32).toInt = true from q2, if_neg (show ¬ bI true = 0 by decide)]
      exact ours_s (d := d + 3) A0 (by omega) z m 0 (by omega)
/-- how many hours of a drop are of a band -/
def hbC (h : av_H) (D : Nat → Nat) (b : Nat) : Nat → Nat := fb_ct (fun j => decide (wvN h (D 1) (D 4) (D 5 + j) / 10 = b))
theorem hb_in (w : WF h) (Jw : J_wi h) {i b A M N : Nat} {D : Nat → Nat} (hi : i < 60) (P : dpc h i D M) (B : dpb D M N) (hb : b < 10) : ∀ n j, j + n = D 6 → bd X (d + 3) 228 15 [(0, vr (some 0)), (1, vi (nI b)), (2, vi (nI (A + hbC h D b j))), (3, vi (nI i)), (4, vr (some (77 + i))), (5, vi (nI j))] [] h = bd X (d + 3) 228 4 [(0, vr (some 0)), (1, vi (nI b)), (2, vi (nI (A + hbC h D b (D 6)))), (3, vi (nI (i + 1)))] [] h
  | 0, j, hj => by
    obtain ⟨-, -, -, -, b4, b5, ⟨b6, b6'⟩, -⟩ := B
    obtain rfl : j = D 6 := by omega
    rw [b_228_15, dr_g w hi P.1 (by decide), if_neg (nI_nlt (by omega) (by omega)), nI_1]
  | n + 1, j, hj => by
    have ih := hb_in w Jw hi P B hb (A := A) n (j + 1) (by omega)
    obtain ⟨-, b1, -, -, b4, b5, ⟨b6, b6'⟩, -⟩ := B
    have v99 := (Jw.v b1 b4 (show D 5 + j < 24 by omega)).2.1
    rw [b_228_15, dr_g w hi P.1 (by decide), if_pos (nI_lt (by omega) (by omega)), dr_g w hi P.1 (by decide), dr_g w hi P.1 (by decide), dr_g w hi P.1 (by decide), is_0 w, nI_add, c_bandOf' w Jw b1 b4 (by omega), nI_1, nI_1, Int32.add_zero]
    rw [hbC, fb_ct] at ih
    by_cases q : wvN h (D 1) (D 4) (D 5 + j) / 10 = b
    · rw [if_pos (congrArg nI q)]
      rw [decide_eq_true q, if_pos rfl] at ih
      exact ih
    · rw [if_neg (fun y => q ((nI_eq (by omega) (by omega)).mp y))]
      rw [decide_eq_false q, if_neg (by decide)] at ih
      exact ih
theorem hb_c {g : av_H} {m : Nat} {D : Nat → Nat → Nat} {M N : Nat → Nat} (Jw : J_wi h) (Q : EN h g m D M N) {b : Nat} (hb : b < 10) : ∀ r i, i + r = m → bd X (d + 3) 228 4 [(0, vr (some 0)), (1, vi (nI b)), (2, vi (nI (fb_sm (fun i => hbC h (D i) b (D i 6)) i))), (3, vi (nI i))] [] h = av_rI (nI (fb_sm (fun i => hbC h (D i) b (D i 6)) m)) h
  | 0, i, hi => by
    obtain ⟨w, w', Bd, ⟨c17, C⟩, -⟩ := Q
    have h60 := Bd.1
    obtain rfl : i = m := by omega
    rw [b_228_4, gIv_0_17 w c17, if_neg (nI_nlt (by omega) (by omega))]
  | r + 1, i, hi => by
    have ih := hb_c Jw Q hb r (i + 1) (by omega)
    obtain ⟨w, w', Bd, ⟨c17, C⟩, -⟩ := Q
    have h60 := Bd.1
    rw [b_228_4, gIv_0_17 w c17, if_pos (nI_lt (by omega) (by omega)), gR_0_13 w, dr_l w (by omega)]
    refine (hb_in w Jw (by omega) (C i (by omega)) (Bd.2.1 i (by omega)) hb (A := fb_sm (fun i => hbC h (D i) b (D i 6)) i) (D i 6) 0 (by omega)).trans ?_
    rw [← ih]
    rfl
theorem c_hrB {m b : Nat} {g : av_H} {D : Nat → Nat → Nat} {M N : Nat → Nat} (Jw : J_wi h) (Q : EN h g m D M N) (hb : b < 10) : ev X (d + 4) 228 [vr (some 0), vi (nI b)] h = av_rI (nI (fb_sm (fun i => hbC h (D i) b (D i 6)) m)) h := by
  rw [e_228, b_228_0]
  exact hb_c Jw Q hb m 0 (by omega)
theorem c_hrB' {m b : Nat} {g : av_H} {D : Nat → Nat → Nat} {M N : Nat → Nat} (Jw : J_wi h) (Q : EN h g m D M N) (hb : b < 10) {β : Type} (Kc : Int32 × av_H → Option β) : (av_cI (ev X (d + 4) 228 [vr (some 0), vi (nI b)] h)).bind Kc = Kc (nI (fb_sm (fun i => hbC h (D i) b (D i 6)) m), h) := by rw [c_hrB Jw Q hb]; rfl
theorem hb_in2 (w : WF h) (Jw : J_wi h) {i b A M N : Nat} {D : Nat → Nat} (hi : i < 60) (P : dpr h i D N) (B : dpb D M N) (hb : b < 10) : ∀ n j, j + n = D 6 → bd X (d + 1) 355 13 [(0, vr (some 137)), (1, vi (nI b)), (2, vi (nI (A + hbC h D b j))), (3, vi (nI i)), (4, vi (nI (D 5 + j)))] [] h = bd X (d + 1) 355 4 [(0, vr (some 137)), (1, vi (nI b)), (2, vi (nI (A + hbC h D b (D 6)))), (3, vi (nI (i + 1)))] [] h
  | 0, j, hj => by
    obtain ⟨-, -, -, -, b4, b5, ⟨b6, b6'⟩, -⟩ := B
    obtain ⟨p0, p1, p2, p4, p5, p6, -⟩ := P
    obtain rfl : j = D 6 := by omega
    rw [b_355_13, gR_137_50 w, ld_172 w hi, gR_137_51 w, ld_173 w hi, p5, p6, nI_add, if_neg (nI_nlt (by omega) (by omega)), nI_1]
  | n + 1, j, hj => by
    have ih := hb_in2 w Jw hi P B hb (A := A) n (j + 1) (by omega)
    obtain ⟨-, b1, -, -, b4, b5, ⟨b6, b6'⟩, -⟩ := B
    obtain ⟨p0, p1, p2, p4, p5, p6, -⟩ := P
    have v99 := (Jw.v b1 b4 (show D 5 + j < 24 by omega)).2.1
    rw [b_355_13, gR_137_50 w, ld_172 w hi, gR_137_51 w, ld_173 w hi, p5, p6, nI_add, if_pos (nI_lt (by omega) (by omega)), gR_137_47 w, ld_169 w hi, gR_137_49 w, ld_171 w hi, p1, p4, is_137 w, s_bandAt' w Jw b1 b4 (by omega), nI_1, nI_1, Int32.add_zero]
    rw [hbC, fb_ct] at ih
    by_cases q : wvN h (D 1) (D 4) (D 5 + j) / 10 = b
    · rw [if_pos (congrArg nI q)]
      rw [decide_eq_true q, if_pos rfl] at ih
      exact ih
    · rw [if_neg (fun y => q ((nI_eq (by omega) (by omega)).mp y))]
      rw [decide_eq_false q, if_neg (by decide)] at ih
      exact ih
theorem hb_s {g : av_H} {m : Nat} {D : Nat → Nat → Nat} {M N : Nat → Nat} (Jw : J_wi g) (Q : EN h g m D M N) {b : Nat} (hb : b < 10) : ∀ r i, i + r = m → bd X (d + 1) 355 4 [(0, vr (some 137)), (1, vi (nI b)), (2, vi (nI (fb_sm (fun i => hbC g (D i) b (D i 6)) i))), (3, vi (nI i))] [] g = av_rI (nI (fb_sm (fun i => hbC g (D i) b (D i 6)) m)) g
  | 0, i, hi => by
    obtain ⟨w, w', Bd, -, ⟨r45, R⟩⟩ := Q
    have h60 := Bd.1
    obtain rfl : i = m := by omega
    rw [b_355_4, gIv_137_45 w' r45, if_neg (nI_nlt (by omega) (by omega))]
  | r + 1, i, hi => by
    have ih := hb_s Jw Q hb r (i + 1) (by omega)
    obtain ⟨w, w', Bd, -, ⟨r45, R⟩⟩ := Q
    have h60 := Bd.1
    rw [b_355_4, gIv_137_45 w' r45, if_pos (nI_lt (by omega) (by omega)), gR_137_50 w', ld_172 w' (by omega), (R i (by omega)).2.2.2.2.1]
    refine (hb_in2 w' Jw (by omega) (R i (by omega)) (Bd.2.1 i (by omega)) hb (A := fb_sm (fun i => hbC g (D i) b (D i 6)) i) (D i 6) 0 (by omega)).trans ?_
    rw [← ih]
    rfl
end
