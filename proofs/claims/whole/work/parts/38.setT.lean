/-! block, rail, cradle -/
theorem pane_inj {t s f c t' s' f' c' : Nat} (hs : s < 4) (hf : f < 12) (hc : c < 10) (hs' : s' < 4) (hf' : f' < 12) (hc' : c' < 10) (e : ((4 * t + s) * 12 + f) * 10 + c = ((4 * t' + s') * 12 + f') * 10 + c') : t = t' ∧ s = s' ∧ f = f' ∧ c = c' := by omega
theorem stop_inj {t s x t' s' x' : Nat} (hs : s < 4) (hx : x < 10) (hs' : s' < 4) (hx' : x' < 10) (e : (4 * t + s) * 10 + x = (4 * t' + s') * 10 + x') : t = t' ∧ s = s' ∧ x = x' := by omega
/-- but for these cells, and rows of the reference, all of a tower's is as it was -/
theorem cellS_u {h : av_H} {a b k : Nat} {v : Int32} (q : a ≠ b ∧ a ≠ b + 1 ∧ a ≠ b + 2) : cellS b h (av_uI h a k v) := ⟨rfl, uI_ne (fun e => q.1 e.symm), uI_ne (fun e => q.2.1 e.symm), uI_ne (fun e => q.2.2 e.symm)⟩
theorem cellS.tr {h g k : av_H} {a : Nat} (x : cellS a h g) (y : cellS a g k) : cellS a h k := ⟨y.1.trans x.1, y.2.1.trans x.2.1, y.2.2.1.trans x.2.2.1, y.2.2.2.trans x.2.2.2⟩
theorem rowS.tr {h g k : av_H} {u : Nat} (x : rowS u h g) (y : rowS u g k) : rowS u h k := ⟨y.1.trans x.1, y.2.1.trans x.2.1, y.2.2.1.trans x.2.2.1, y.2.2.2.1.trans x.2.2.2.1, y.2.2.2.2.1.trans x.2.2.2.2.1, fun s hs c hc f hf => (y.2.2.2.2.2.1 s hs c hc f hf).trans (x.2.2.2.2.2.1 s hs c hc f hf), fun s hs c hc => (y.2.2.2.2.2.2 s hs c hc).trans (x.2.2.2.2.2.2 s hs c hc)⟩
theorem rowS_u {h : av_H} {a k u : Nat} {v : Int32} (q : a ≠ 143 ∧ a ≠ 144 ∧ a ≠ 145 ∧ a ≠ 147 ∧ a ≠ 148 ∧ a ≠ 149 ∧ a ≠ 150) : rowS u h (av_uI h a k v) := by
  obtain ⟨q1, q2, q3, q4, q5, q6, q7⟩ := q
  exact ⟨by rw [uI_ne (Ne.symm q1)], by rw [uI_ne (Ne.symm q2)], by rw [uI_ne (Ne.symm q5)], by rw [uI_ne (Ne.symm q6)], by rw [uI_ne (Ne.symm q7)], fun _ _ _ _ _ _ => by rw [uI_ne (Ne.symm q3)], fun _ _ _ _ => by rw [uI_ne (Ne.symm q4)]⟩
theorem rowS_b {h : av_H} {t s f c u : Nat} {v : Int32} (hs : s < 4) (hf : f < 12) (hc : c < 10) (hu : u ≠ t) : rowS u h (av_uI h 145 (((4 * t + s) * 12 + f) * 10 + c) v) := by
  refine ⟨by rw [uI_ne (by decide)], by rw [uI_ne (by decide)], by rw [uI_ne (by decide)], by rw [uI_ne (by decide)], by rw [uI_ne (by decide)], fun s' hs' c' hc' f' hf' => uI_nk (fun e => hu (pane_inj hs' hf' hc' hs hf hc e).1), fun _ _ _ _ => by rw [uI_ne (by decide)]⟩
theorem rowS_s {h : av_H} {t s x u : Nat} {v : Int32} (hs : s < 4) (hx : x < 10) (hu : u ≠ t) : rowS u h (av_uI h 147 ((4 * t + s) * 10 + x) v) := by
  refine ⟨by rw [uI_ne (by decide)], by rw [uI_ne (by decide)], by rw [uI_ne (by decide)], by rw [uI_ne (by decide)], by rw [uI_ne (by decide)], fun _ _ _ _ _ _ => by rw [uI_ne (by decide)], fun s' hs' x' hx' => uI_nk (fun e => hu (stop_inj hs' hx' hs hx e).1)⟩
theorem rowS_c {h : av_H} {a t u : Nat} {v : Int32} (ha : a = 143 ∨ a = 144 ∨ a = 148 ∨ a = 149 ∨ a = 150) (hu : u ≠ t) : rowS u h (av_uI h a t v) := by
  rcases ha with rfl | rfl | rfl | rfl | rfl <;> refine ⟨?_, ?_, ?_, ?_, ?_, fun _ _ _ _ _ _ => ?_, fun _ _ _ _ => ?_⟩ <;> first | exact uI_nk hu | rw [uI_ne (by decide)]
section
variable {X : av_X} {d : Nat} {h : av_H}
theorem C_block0 (w : WF h) (J : J_tow h) (t s f c : Int32) (y : Bool) (ok : isPan h t s f c = false) : ev X (d + 5) 128 [vr (some 0), vi t, vi s, vi f, vi c, vi (bI y)] h = av_rI 0 h := by
  simp (disch := first | ((repeat (first | with_reducible apply WF_uI | with_reducible apply WF_uL | with_reducible apply WF_th)); with_reducible assumption) | omega | (simp only [uI_1, uL_1, th_1, uI_R, uL_R]; with_reducible assumption)) only [e_128, b_128_0, ↓is_0, ↓c_isPane', ↓reduceIte, i10, av_cI_r, av_cL_r, av_cV_r, Option.bind_some, ↓zb_0, ↓zb_1, ↓zb_b, bI_0, ok, if_true]
theorem C_block1 (w : WF h) (J : J_tow h) {t s f c a b : Nat} (h6 : t < 6) (hs : s < 4) (hf : f < 12) (hc : c < 10) (ht : h.2.2.2 1 t = some a) (T : twA h t a) (hb : h.2.1 (a + 1) (s * 10 + c) = nI b) (y : Bool) (ok : isPan h (nI t) (nI s) (nI f) (nI c) = true) : ev X (d + 5) 128 [vr (some 0), vi (nI t), vi (nI s), vi (nI f), vi (nI c), vi (bI y)] h = av_rI 1 (av_uI h (a + 1) (s * 10 + c) (nI (setB b f y))) := by
  obtain ⟨b0, k1, k2, k3, r5, r6, -⟩ := T
  simp (disch := first | ((repeat (first | with_reducible apply WF_uI | with_reducible apply WF_uL | with_reducible apply WF_th)); with_reducible assumption) | omega | (simp only [uI_1, uL_1, th_1, uI_R, uL_R]; with_reducible assumption)) only [e_128, b_128_0, ↓is_0, ↓c_isPane', ↓reduceIte, i10, av_cI_r, av_cL_r, av_cV_r, Option.bind_some, ↓zb_0, ↓zb_1, ↓zb_b, bI_0, ok, Bool.true_eq_false, if_false, ↓gR_0_0, ↓ld1v (a := a), ↓tw_is, ↓c_setBl' (b := b)]
theorem R_block0 (w : WF h) (J : R_tow h) (t s f c : Int32) (y : Bool) (ok : isPan h t s f c = false) : ev X (d + 4) 263 [vr (some 137), vi t, vi s, vi f, vi c, vi (bI y)] h = av_rI 0 (th h) := by
  have J2 := J.th
  simp (disch := first | ((repeat (first | with_reducible apply WF_uI | with_reducible apply WF_uL | with_reducible apply WF_th)); with_reducible assumption) | omega | (simp only [uI_1, uL_1, th_1, uI_R, uL_R]; with_reducible assumption)) only [e_263, b_263_0, ↓pI_137, ↓is_137, th_e, ↓s_isPane', ↓reduceIte, i10, av_cI_r, av_cL_r, av_cV_r, Option.bind_some, ↓zb_0, ↓zb_1, ↓zb_b, bI_0, isPan_th, ok, if_true]
theorem R_block1 (w : WF h) (J : R_tow h) {t s f c : Nat} (h6 : t < 6) (hs : s < 4) (hf : f < 12) (hc : c < 10) (y : Bool) (ok : isPan h (nI t) (nI s) (nI f) (nI c) = true) : ev X (d + 4) 263 [vr (some 137), vi (nI t), vi (nI s), vi (nI f), vi (nI c), vi (bI y)] h = av_rI 1 (av_uI (th h) 145 (((4 * t + s) * 12 + f) * 10 + c) (bI y)) := by
  have J2 := J.th
  simp (disch := first | ((repeat (first | with_reducible apply WF_uI | with_reducible apply WF_uL | with_reducible apply WF_th)); with_reducible assumption) | omega | (simp only [uI_1, uL_1, th_1, uI_R, uL_R]; with_reducible assumption)) only [e_263, b_263_0, ↓pI_137, ↓is_137, th_e, ↓s_isPane', ↓s_paneOf', ↓reduceIte, i10, av_cI_r, av_cL_r, av_cV_r, Option.bind_some, ↓zb_0, ↓zb_1, ↓zb_b, bI_0, isPan_th, ok, Bool.true_eq_false, if_false, ↓gR_137_12, ↓st_145, nar_b]
theorem block_ok (w : WF h) (J : J_tow h) (t s f c : Int32) (y : Bool) : ∃ v h1 h2, ev X (d + 5) 128 [vr (some 0), vi t, vi s, vi f, vi c, vi (bI y)] h = av_rI v h1 ∧ ev X (d + 5) 263 [vr (some 137), vi t, vi s, vi f, vi c, vi (bI y)] h1 = av_rI v h2 ∧ WF h2 ∧ J_tow h2 ∧
    off true [145] [(137, 0)] h h2 := by
  cases ok : isPan h t s f c with
  | false => exact ⟨0, h, th h, C_block0 w J t s f c y ok, R_block0 (d := d + 1) w J.R t s f c y ok, w, J.fr (agr.uI rfl agr.rfl), agr.uI rfl agr.rfl⟩
  | true =>
    have q1 : told h t = true := by simp only [isPan, Bool.and_eq_true] at ok; exact ok.1.1.1
    obtain ⟨t0, s, f, c, b1, b2, b3, b4, rfl, rfl, rfl, rfl⟩ := pan_ex J ok
    obtain ⟨t, a, h6, e, hj, T⟩ := told_ex J q1
    obtain rfl : t0 = t := (nI_eq (by omega) (by omega)).mp e
    have b0 := T.1
    obtain ⟨b, z1, z2, z3⟩ := T.2.2.2.2.2.2.2.1 s b2 c b4
    refine ⟨1, _, _, C_block1 w J h6 b2 b3 b4 hj T z2 y ok, R_block1 (d := d + 1) (h := av_uI h (a + 1) (s * 10 + c) (nI (setB b f y))) w (J.R.fr (agr.uI (by simp [FP]; omega) agr.rfl)) h6 b2 b3 b4 y ?_, w, ?_, ?_⟩
    · rw [isPan_eq2 (h := h) (fun k => by rw [uI_ne (by omega)]) (fun k => by rw [uI_ne (by omega)])]
      exact ok
    · refine J.upd h6 hj ⟨[], by simp [th, uI_1]⟩ rfl (fun u hu e => ?_) (fun b' q z => ?_) ?_
      · exact ((rowS_u (by omega)).tr (rowS_u (by decide))).tr (rowS_b b2 b3 b4 e)
      · exact ((cellS_u (by omega)).tr (cellS_u (by omega))).tr (cellS_u (by omega))
      · obtain ⟨T0, T1, T2, T3, T4, T5, T6, T7, T8⟩ := T
        refine ⟨T0, T1, T2, T3, T4, T5, ?_, fun s' hs' c' hc' => ?_, ?_⟩
        · simp (disch := omega) only [th, uI_ne]
          exact T6
        · by_cases e : s' * 10 + c' = s * 10 + c
          · obtain ⟨rfl, rfl⟩ : s' = s ∧ c' = c := by omega
            refine ⟨setB b f y, setB_lt (n := 12) y z1 b3, by simp (disch := omega) only [th, uI_ne, uI_eq], fun f' hf' => ?_⟩
            rw [setB_bit]
            by_cases e2 : f' = f
            · subst e2
              rw [uI_eq, if_pos rfl]
            · rw [uI_nk (fun z => e2 (pane_inj b2 hf' b4 b2 b3 b4 z).2.2.1), if_neg e2]
              simp (disch := omega) only [th, uI_ne]
              exact z3 f' hf'
          · obtain ⟨b', y1, y2, y3⟩ := T7 s' hs' c' hc'
            refine ⟨b', y1, by simp (disch := omega) only [th, uI_ne, uI_nk]; exact y2, fun f' hf' => ?_⟩
            rw [uI_nk (fun z => e (by have := pane_inj hs' hf' hc' b2 b3 b4 z; omega))]
            simp (disch := omega) only [th, uI_ne]
            exact y3 f' hf'
        · simp (disch := omega) only [th, uI_ne]
          exact T8
    · unfold off th
      exact agr.uI rfl (agr.uI rfl (agr.uI (by simp [FP]; omega) agr.rfl))
theorem isStp_eq2 {h h' : av_H} (e : ∀ k, h'.2.1 143 k = h.2.1 143 k) (e2 : ∀ k, h'.2.1 144 k = h.2.1 144 k) (t s x : Int32) : isStp h' t s x = isStp h t s x := by simp only [isStp, told, e, e2]
theorem isStp_th {t s x : Int32} : isStp (th h) t s x = isStp h t s x := isStp_eq2 (fun _ => by rw [th_I (by decide)]) (fun _ => by rw [th_I (by decide)]) t s x
theorem stp_ex {h : av_H} (J : R_tow h) {t s x : Int32} (q : isStp h t s x = true) : ∃ t' s' x' : Nat, t' < 6 ∧ s' < 4 ∧ x' < 10 ∧ t = nI t' ∧ s = nI s' ∧ x = nI x' ∧ ∃ C : Nat, x' < C ∧ C ≤ 10 ∧ h.2.1 144 t' = nI C := by
  simp only [isStp, Bool.and_eq_true] at q
  obtain ⟨⟨q1, q2⟩, q4⟩ := q
  obtain ⟨j, F, C, h6, rfl, p1, p2, p3, p4, r2, r4⟩ := J.ex q1
  obtain ⟨s', hs, rfl⟩ := rg_nI (b := 3) (by decide) q2
  rw [nI_clamp (by omega), r4, toI_nI (by omega)] at q4
  obtain ⟨c', hc, rfl⟩ := rg_nI (b := C - 1) (by omega) (by rw [show ((C - 1 : Nat) : Int) = (C : Int) - 1 by omega]; exact q4)
  exact ⟨j, s', c', h6, by omega, by omega, rfl, rfl, rfl, C, by omega, p4, r4⟩
theorem C_rail0 (w : WF h) (J : J_tow h) (t s x : Int32) (y : Bool) (ok : isStp h t s x = false) : ev X (d + 4) 130 [vr (some 0), vi t, vi s, vi x, vi (bI y)] h = av_rI 0 h := by
  simp (disch := first | ((repeat (first | with_reducible apply WF_uI | with_reducible apply WF_uL | with_reducible apply WF_th)); with_reducible assumption) | omega | (simp only [uI_1, uL_1, th_1, uI_R, uL_R]; with_reducible assumption)) only [e_130, b_130_0, ↓is_0, ↓c_isStop', ↓reduceIte, i10, av_cI_r, av_cL_r, av_cV_r, Option.bind_some, ↓zb_0, ↓zb_1, ↓zb_b, bI_0, ok, if_true]
theorem C_rail1 (w : WF h) (J : J_tow h) {t s x a b : Nat} (h6 : t < 6) (hs : s < 4) (hx : x < 10) (ht : h.2.2.2 1 t = some a) (T : twA h t a) (hb : h.2.1 (a + 2) s = nI b) (y : Bool) (ok : isStp h (nI t) (nI s) (nI x) = true) : ev X (d + 4) 130 [vr (some 0), vi (nI t), vi (nI s), vi (nI x), vi (bI y)] h = av_rI 1 (av_uI h (a + 2) s (nI (setB b x (!y)))) := by
  obtain ⟨b0, k1, k2, k3, r5, r6, -⟩ := T
  simp (disch := first | ((repeat (first | with_reducible apply WF_uI | with_reducible apply WF_uL | with_reducible apply WF_th)); with_reducible assumption) | omega | (simp only [uI_1, uL_1, th_1, uI_R, uL_R]; with_reducible assumption)) only [e_130, b_130_0, ↓is_0, ↓c_isStop', ↓reduceIte, i10, av_cI_r, av_cL_r, av_cV_r, Option.bind_some, ↓zb_0, ↓zb_1, ↓zb_b, bI_0, ok, Bool.true_eq_false, if_false, ↓gR_0_0, ↓ld1v (a := a), ↓tw_is, ↓c_setOp' (b := b)]
theorem R_rail0 (w : WF h) (J : R_tow h) (t s x : Int32) (y : Bool) (ok : isStp h t s x = false) : ev X (d + 4) 265 [vr (some 137), vi t, vi s, vi x, vi (bI y)] h = av_rI 0 (th h) := by
  have J2 := J.th
  simp (disch := first | ((repeat (first | with_reducible apply WF_uI | with_reducible apply WF_uL | with_reducible apply WF_th)); with_reducible assumption) | omega | (simp only [uI_1, uL_1, th_1, uI_R, uL_R]; with_reducible assumption)) only [e_265, b_265_0, ↓pI_137, ↓is_137, th_e, ↓s_isStop', ↓reduceIte, i10, av_cI_r, av_cL_r, av_cV_r, Option.bind_some, ↓zb_0, ↓zb_1, ↓zb_b, bI_0, isStp_th, ok, if_true]
theorem R_rail1 (w : WF h) (J : R_tow h) {t s x : Nat} (h6 : t < 6) (hs : s < 4) (hx : x < 10) (y : Bool) (ok : isStp h (nI t) (nI s) (nI x) = true) : ev X (d + 4) 265 [vr (some 137), vi (nI t), vi (nI s), vi (nI x), vi (bI y)] h = av_rI 1 (av_uI (th h) 147 ((4 * t + s) * 10 + x) (bI (!y))) := by
  have J2 := J.th
  simp (disch := first | ((repeat (first | with_reducible apply WF_uI | with_reducible apply WF_uL | with_reducible apply WF_th)); with_reducible assumption) | omega | (simp only [uI_1, uL_1, th_1, uI_R, uL_R]; with_reducible assumption)) only [e_265, b_265_0, ↓pI_137, ↓is_137, th_e, ↓s_isStop', ↓s_stopOf', ↓reduceIte, i10, av_cI_r, av_cL_r, av_cV_r, Option.bind_some, ↓zb_0, ↓zb_1, ↓zb_b, bI_0, isStp_th, ok, Bool.true_eq_false, if_false, ↓gR_137_14, ↓st_147, nar_0, nar_1]
  cases y <;> rfl
theorem rail_ok (w : WF h) (J : J_tow h) (t s x : Int32) (y : Bool) : ∃ v h1 h2, ev X (d + 4) 130 [vr (some 0), vi t, vi s, vi x, vi (bI y)] h = av_rI v h1 ∧ ev X (d + 4) 265 [vr (some 137), vi t, vi s, vi x, vi (bI y)] h1 = av_rI v h2 ∧ WF h2 ∧ J_tow h2 ∧
    off true [147] [(137, 0)] h h2 := by
  cases ok : isStp h t s x with
  | false => exact ⟨0, h, th h, C_rail0 w J t s x y ok, R_rail0 w J.R t s x y ok, w, J.fr (agr.uI rfl agr.rfl), agr.uI rfl agr.rfl⟩
  | true =>
    have q1 : told h t = true := by simp only [isStp, Bool.and_eq_true] at ok; exact ok.1.1
    obtain ⟨t0, s, x, b1, b2, b3, rfl, rfl, rfl, -⟩ := stp_ex J.R ok
    obtain ⟨t, a, h6, e, hj, T⟩ := told_ex J q1
    obtain rfl : t0 = t := (nI_eq (by omega) (by omega)).mp e
    have b0 := T.1
    obtain ⟨b, z1, z2, z3⟩ := T.2.2.2.2.2.2.2.2 s b2
    refine ⟨1, _, _, C_rail1 w J h6 b2 b3 hj T z2 y ok, R_rail1 (h := av_uI h (a + 2) s (nI (setB b x (!y)))) w (J.R.fr (agr.uI (by simp [FP]; omega) agr.rfl)) h6 b2 b3 y ?_, w, ?_, ?_⟩
    · rw [isStp_eq2 (h := h) (fun k => by rw [uI_ne (by omega)]) (fun k => by rw [uI_ne (by omega)])]
      exact ok
    · refine J.upd h6 hj ⟨[], by simp [th, uI_1]⟩ rfl (fun u hu e => ?_) (fun b' q z => ?_) ?_
      · exact ((rowS_u (by omega)).tr (rowS_u (by decide))).tr (rowS_s b2 b3 e)
      · exact ((cellS_u (by omega)).tr (cellS_u (by omega))).tr (cellS_u (by omega))
      · obtain ⟨T0, T1, T2, T3, T4, T5, T6, T7, T8⟩ := T
        refine ⟨T0, T1, T2, T3, T4, T5, ?_, ?_, fun s' hs' => ?_⟩
        · simp (disch := omega) only [th, uI_ne]
          exact T6
        · simp (disch := omega) only [th, uI_ne]
          exact T7
        · by_cases e : s' = s
          · subst e
            refine ⟨setB b x (!y), setB_lt (n := 10) _ z1 b3, by simp (disch := omega) only [th, uI_ne, uI_eq], fun x' hx' => ?_⟩
            rw [setB_bit]
            by_cases e2 : x' = x
            · subst e2
              rw [uI_eq, if_pos rfl]
            · rw [uI_nk (fun z => e2 (stop_inj b2 hx' b2 b3 z).2.2), if_neg e2]
              simp (disch := omega) only [th, uI_ne]
              exact z3 x' hx'
          · obtain ⟨b', y1, y2, y3⟩ := T8 s' hs'
            refine ⟨b', y1, by simp (disch := omega) only [th, uI_ne, uI_nk]; exact y2, fun x' hx' => ?_⟩
            rw [uI_nk (fun z => e (stop_inj hs' hx' b2 b3 z).2.1)]
            simp (disch := omega) only [th, uI_ne]
            exact y3 x' hx'
    · unfold off th
      exact agr.uI rfl (agr.uI rfl (agr.uI (by simp [FP]; omega) agr.rfl))
/-- a cradle may be told -/
def okR (h : av_H) (t v l : Int32) : Bool := told h t && rg v 1 4 && rg l 1 9999
theorem C_cradle0 (w : WF h) (J : J_tow h) (t v l : Int32) (ok : okR h t v l = false) : ev X (d + 3) 131 [vr (some 0), vi t, vi v, vi l] h = av_rI 0 h := by
  simp (disch := first | ((repeat (first | with_reducible apply WF_uI | with_reducible apply WF_uL | with_reducible apply WF_th)); with_reducible assumption) | omega | (simp only [uI_1, uL_1, th_1, uI_R, uL_R]; with_reducible assumption)) only [e_131, b_131_0, ↓is_0, ↓gR_0_0, ↓c_isTold', ↓c_within', ↓reduceIte, i10, av_cI_r, av_cL_r, av_cV_r, Option.bind_some, ↓zb_0, ↓zb_1, ↓zb_b, bI_0, tI_1, tI_4, tI_9999]
  cases q1 : told h t <;> cases q2 : rg v 1 4 <;> cases q3 : rg l 1 9999 <;> simp only [if_true, if_false, Bool.true_eq_false]
  simp [okR, q1, q2, q3] at ok
theorem C_cradle1 (w : WF h) (J : J_tow h) {t a : Nat} (v l : Int32) (h6 : t < 6) (ht : h.2.2.2 1 t = some a) (T : twA h t a) (ok : okR h (nI t) v l = true) : ev X (d + 3) 131 [vr (some 0), vi (nI t), vi v, vi l] h = av_rI 1 (av_uI (av_uI (av_uI h a 2 v) a 3 l) a 4 0) := by
  obtain ⟨b0, k1, k2, k3, r5, r6, -⟩ := T
  simp only [okR, Bool.and_eq_true] at ok
  obtain ⟨⟨q1, q2⟩, q3⟩ := ok
  simp (disch := first | ((repeat (first | with_reducible apply WF_uI | with_reducible apply WF_uL | with_reducible apply WF_th)); with_reducible assumption) | omega | (simp only [uI_1, uL_1, th_1, uI_R, uL_R]; with_reducible assumption)) only [e_131, b_131_0, ↓is_0, ↓gR_0_0, ↓c_isTold', ↓c_within', ↓reduceIte, i10, av_cI_r, av_cL_r, av_cV_r, Option.bind_some, ↓zb_0, ↓zb_1, ↓zb_b, bI_0, tI_1, tI_4, tI_9999, q1, q2, q3, Bool.true_eq_false, if_false, ↓ld1v (a := a), ↓tw_pI]
theorem R_cradle0 (w : WF h) (t v l : Int32) (ok : okR h t v l = false) : ev X (d + 3) 266 [vr (some 137), vi t, vi v, vi l] h = av_rI 0 (th h) := by
  simp (disch := first | ((repeat (first | with_reducible apply WF_uI | with_reducible apply WF_uL | with_reducible apply WF_th)); with_reducible assumption) | omega | (simp only [uI_1, uL_1, th_1, uI_R, uL_R]; with_reducible assumption)) only [e_266, b_266_0, ↓pI_137, ↓is_137, th_e, ↓s_isTower', ↓s_within', ↓reduceIte, i10, av_cI_r, av_cL_r, av_cV_r, Option.bind_some, ↓zb_0, ↓zb_1, ↓zb_b, bI_0, told_th, tI_1, tI_4, tI_9999]
  cases q1 : told h t <;> cases q2 : rg v 1 4 <;> cases q3 : rg l 1 9999 <;> simp only [if_true, if_false, Bool.true_eq_false]
  simp [okR, q1, q2, q3] at ok
theorem R_cradle1 (w : WF h) {t : Nat} (v l : Int32) (h6 : t < 6) (ok : okR h (nI t) v l = true) : ev X (d + 3) 266 [vr (some 137), vi (nI t), vi v, vi l] h = av_rI 1 (av_uI (av_uI (av_uI (th h) 148 t v) 149 t l) 150 t 0) := by
  simp only [okR, Bool.and_eq_true] at ok
  obtain ⟨⟨q1, q2⟩, q3⟩ := ok
  simp (disch := first | ((repeat (first | with_reducible apply WF_uI | with_reducible apply WF_uL | with_reducible apply WF_th)); with_reducible assumption) | omega | (simp only [uI_1, uL_1, th_1, uI_R, uL_R]; with_reducible assumption)) only [e_266, b_266_0, ↓pI_137, ↓is_137, ↓gR_137_15, ↓ld_148, ↓st_148, ↓ln_148, ↓gR_137_16, ↓ld_149, ↓st_149, ↓ln_149, ↓gR_137_17, ↓ld_150, ↓st_150, ↓ln_150, th_e, ↓s_isTower', ↓s_within', ↓reduceIte, i10, av_cI_r, av_cL_r, av_cV_r, Option.bind_some, ↓zb_0, ↓zb_1, ↓zb_b, bI_0, told_th, tI_1, tI_4, tI_9999, q1, q2, q3, Bool.true_eq_false, if_false]
theorem rg_nI1 {v : Int32} {b : Nat} (hb : b < 2147483647) (h : rg v 1 b = true) : ∃ t : Nat, 1 ≤ t ∧ t ≤ b ∧ v = nI t := by
  obtain ⟨t, h1, rfl⟩ := rg_nI (b := b) (v := v) hb (by simp only [rg, decide_eq_true_eq] at h ⊢; omega)
  rw [rg, toI_nI (by omega), decide_eq_true_eq] at h
  exact ⟨t, by omega, by omega, rfl⟩
theorem cradle_ok (w : WF h) (J : J_tow h) (t v l : Int32) : ∃ z h1 h2, ev X (d + 3) 131 [vr (some 0), vi t, vi v, vi l] h = av_rI z h1 ∧ ev X (d + 3) 266 [vr (some 137), vi t, vi v, vi l] h1 = av_rI z h2 ∧ WF h2 ∧ J_tow h2 ∧
    off true [148, 149, 150] [(137, 0)] h h2 := by
  cases ok : okR h t v l with
  | false => exact ⟨0, h, th h, C_cradle0 w J t v l ok, R_cradle0 w t v l ok, w, J.fr (agr.uI rfl agr.rfl), agr.uI rfl agr.rfl⟩
  | true =>
    obtain ⟨⟨q1, q2⟩, q3⟩ : (told h t = true ∧ rg v 1 4 = true) ∧ rg l 1 9999 = true := by simpa only [okR, Bool.and_eq_true] using ok
    obtain ⟨t, a, h6, rfl, hj, T⟩ := told_ex J q1
    obtain ⟨v, v1, v2, rfl⟩ := rg_nI1 (b := 4) (by decide) q2
    obtain ⟨l, l1, l2, rfl⟩ := rg_nI1 (b := 9999) (by decide) q3
    have b0 := T.1
    refine ⟨1, _, _, C_cradle1 w J (nI v) (nI l) h6 hj T ok, R_cradle1 (h := av_uI (av_uI (av_uI h a 2 (nI v)) a 3 (nI l)) a 4 0) w (nI v) (nI l) h6 ?_, w, ?_, ?_⟩
    · rw [← ok]
      simp (disch := omega) only [okR, told, uI_ne]
    · refine J.upd h6 hj ⟨[], by simp [th, uI_1]⟩ rfl (fun u hu e => ?_) (fun b' q z => ?_) ?_
      · exact ((((((rowS_u (by omega)).tr (rowS_u (by omega))).tr (rowS_u (by omega))).tr (rowS_u (by decide))).tr (rowS_c (by decide) e)).tr (rowS_c (by decide) e)).tr (rowS_c (by decide) e)
      · exact ((((((cellS_u (by omega)).tr (cellS_u (by omega))).tr (cellS_u (by omega))).tr (cellS_u (by omega))).tr (cellS_u (by omega))).tr (cellS_u (by omega))).tr (cellS_u (by omega))
      · obtain ⟨T0, T1, T2, T3, T4, T5, ⟨F, C, W, L, V, p1, p2, p3, p4, p5, p6, p7, p8, p9, r1, r2, r3, r4, r5, r6, r7, r8, r9, r0⟩, T7, T8⟩ := T
        refine ⟨T0, T1, T2, T3, T4, T5, ⟨F, C, v, l, 0, p1, p2, p3, p4, v1, v2, l1, l2, by omega, ?_⟩, ?_, ?_⟩
        · simp (disch := omega) only [th, uI_ne, uI_nk, uI_eq, r1, r2, r3, r4, true_and, nI_lit, and_self]
        · simp (disch := omega) only [th, uI_ne]
          exact T7
        · simp (disch := omega) only [th, uI_ne]
          exact T8
    · unfold off th
      exact agr.uI rfl (agr.uI rfl (agr.uI rfl (agr.uI rfl (agr.uI (by simp [FP]; omega) (agr.uI (by simp [FP]; omega) (agr.uI (by simp [FP]; omega) agr.rfl))))))
end
