/-! the class finds its best row -/
/-- a frame, and no cell has come -/
def offQ (ds : List Nat) (h h' : av_H) : Prop := off false ds [] h h' ∧ h'.1 = h.1
theorem offQ.r {ds : List Nat} {h : av_H} : offQ ds h h := ⟨agr.rfl, rfl⟩
theorem offQ.i {ds : List Nat} {h h' : av_H} (A : offQ ds h h') {a k : Nat} {v : Int32} (q : (fun a k => !FP false ds [] a k) a k = false) : offQ ds h (av_uI h' a k v) := ⟨agr.uI q A.1, A.2⟩
theorem offQ.l {ds : List Nat} {h h' : av_H} (A : offQ ds h h') {a k : Nat} {v : Int64} (q : (fun a k => !FP false ds [] a k) a k = false) : offQ ds h (av_uL h' a k v) := ⟨agr.uL q A.1, A.2⟩
theorem offQ.t {ds es : List Nat} {h g k : av_H} (A : offQ ds h g) (B : offQ es g k) (D : fpS false es [] false ds [] = true) : offQ ds h k := ⟨agr.tr A.1 (B.1.up D), B.2.trans A.2⟩
def tD (tn : Nat → Nat → Nat) (s dd e : Nat) : Nat := if dd.testBit e = true then tn e s else 0
section
variable {n c : Nat} {p S W : Nat → Nat} {tn : Nat → Nat → Nat}
theorem Ls_lt {A s : Nat} (hA : A < 256) : ∀ j, Ls n c p S A s j < 256
  | 0 => hA
  | j + 1 => nd_lt (n := 8) (Ls_lt hA j)
theorem wt_le (O : wnO n p S W) {A s : Nat} : ∀ j, wtN n c p S W A s j ≤ j * 792
  | 0 => by show 0 ≤ 0 * 792; omega
  | j + 1 => by
    have := wt_le O (A := A) (s := s) j
    have := wsN_le O (dnM n p S c (Ls n c p S A s j) s)
    rw [wt_s, wj]
    omega
def vS (n c : Nat) (p S W : Nat → Nat) (tn : Nat → Nat → Nat) (s dd : Nat) : Nat := sN (fun k => od (tD tn s dd) 5 k * wtN n c p S W 255 s k) 6
end
section
variable {X : av_X} {d : Nat} {n c : Nat} {p S W : Nat → Nat} {tn : Nat → Nat → Nat} {h0 : av_H}
theorem wt_lp (O : wnO n p S W) (C0 : wnC h0 n p S W) (hc0 : h0.2.1 46 4 = nI c) (c8 : c ≤ 8) {s : Nat} (s4 : s < 4) : ∀ m k h, k + m = 6 → WF h → offQ [55] h0 h → (∀ j, j < k → h.2.1 55 j = nI (wtN n c p S W 255 s j)) → ∃ h', WF h' ∧ offQ [55] h0 h' ∧ (∀ j, j < 6 → h'.2.1 55 j = nI (wtN n c p S W 255 s j)) ∧ bd X (d + 2) 61 6 [(0, vr (some 46)), (1, vi (nI s)), (2, vi (nI (Ls n c p S 255 s k))), (3, vi (nI (wtN n c p S W 255 s k))), (4, vi (nI k))] [] h = av_rV h'
  | 0, k, h, hk, w, O1, H => by
    obtain rfl : k = 6 := by omega
    exact ⟨h, w, O1, H, by rw [b_61_6, if_pos (show (5 : Int32) < nI 6 by decide)]⟩
  | m + 1, k, h, hk, w, O1, H => by
    have w1 : WF (av_uI h 55 k (nI (wtN n c p S W 255 s k))) := WF_uI w
    have O2 : offQ [55] h0 (av_uI h 55 k (nI (wtN n c p S W 255 s k))) := O1.i rfl
    have C1 := C0.fr (O2.1.fr (by decide))
    have dl : dnM n p S c (Ls n c p S 255 s k) s < 256 := Nat.lt_of_lt_of_le (dnM_lt O) (Nat.pow_le_pow_right (n := 2) (by decide) O.1)
    obtain ⟨h', w', O', H', e'⟩ := wt_lp O C0 hc0 c8 s4 m (k + 1) (av_uI h 55 k (nI (wtN n c p S W 255 s k))) (by omega) w1 O2 (fun j hj => by
      by_cases z : j = k
      · rw [z, uI_eq]
      · rw [uI_nk z]
        exact H j (by omega))
    refine ⟨h', w', O', H', ?_⟩
    rw [b_61_6, if_neg (show ¬ (5 : Int32) < nI k from nI_nlt (a := 5) (by omega) (by omega)), gR_46_13 w, st_55 w (by omega), is_46 w1, c_done w1 O C1 (((O2.1.fr (q := false) (cs := []) (fs := [(46, 4)]) (by decide)).I rfl).trans hc0) c8 (Ls_lt (by decide) k) s4, av_cI_r, Option.bind_some, is_46 w1, c_worth w1 O C1 dl, av_cI_r, Option.bind_some, nb_andn, nI_add, nI_1]
    exact e'
theorem c_times (O : wnO n p S W) (C0 : wnC h0 n p S W) (hc0 : h0.2.1 46 4 = nI c) (c8 : c ≤ 8) {s : Nat} (s4 : s < 4) (w : WF h0) : ∃ h', WF h' ∧ offQ [55] h0 h' ∧ (∀ j, j < 6 → h'.2.1 55 j = nI (wtN n c p S W 255 s j)) ∧ ev X (d + 3) 61 [vr (some 46), vi (nI s)] h0 = av_rV h' := by
  obtain ⟨h', w', O', H', e'⟩ := wt_lp (X := X) (d := d) O C0 hc0 c8 s4 6 0 h0 (by omega) w offQ.r (fun j hj => absurd hj (by omega))
  refine ⟨h', w', O', H', ?_⟩
  rw [e_61, b_61_0]
  exact e'
/-- one day of the odds, from above -/
theorem oi_lp {ta : Nat} {v2 v3 : Int32} {t : Nat → Nat} {e tt : Nat} (et : t e = tt) (t10 : tt ≤ 10) : ∀ j h, j ≤ 5 → WF h → offQ [54] h0 h → (∀ k, k < 6 → j < k → h.2.2.1 54 k = lN (od t (e + 1) k)) → (∀ k, k ≤ j → h.2.2.1 54 k = lN (od t e k)) → ∃ h', WF h' ∧ offQ [54] h0 h' ∧ (∀ k, k < 6 → h'.2.2.1 54 k = lN (od t (e + 1) k)) ∧ bd X (d + 2) 62 27 [(0, vr (some 46)), (1, vr (some ta)), (2, vi v2), (3, vi v3), (4, vi (nI e)), (5, vi (nI tt)), (6, vi (nI j))] [] h = bd X (d + 2) 62 11 [(0, vr (some 46)), (1, vr (some ta)), (2, vi v2), (3, vi v3), (4, vi (nI (e + 1)))] [] h'
  | 0, h, hj, w, O, H1, H2 => by
    refine ⟨av_uL h 54 0 (lN (od t (e + 1) 0)), WF_uL w, O.l rfl, fun k hk => ?_, ?_⟩
    · by_cases z : k = 0
      · rw [z, uL_eq]
      · rw [uL_nk z]
        exact H1 k hk (by omega)
    · rw [b_62_27, if_neg (show ¬ (0 : Int32) < nI 0 by decide), gR_46_12 w, show (0 : Int32) = nI 0 from rfl, ld_54 w (show 0 < 6 by decide), H2 0 (Nat.le_refl _), show (10 : Int32) = nI 10 from rfl, pk_sub t10, nI_l (by omega), lN_mul, st_54 w (show 0 < 6 by decide), nI_1, ← et]
      rfl
  | j + 1, h, hj, w, O, H1, H2 => by
    have w1 : WF (av_uL h 54 (j + 1) (lN (od t (e + 1) (j + 1)))) := WF_uL w
    obtain ⟨h', w', O', H', e'⟩ := oi_lp (ta := ta) (v2 := v2) (v3 := v3) et t10 j (av_uL h 54 (j + 1) (lN (od t (e + 1) (j + 1)))) (by omega) w1 (O.l rfl) (fun k hk hk2 => by
      by_cases z : k = j + 1
      · rw [z, uL_eq]
      · rw [uL_nk z]
        exact H1 k hk (by omega)) (fun k hk => by
      rw [uL_nk (by omega)]
      exact H2 k (by omega))
    refine ⟨h', w', O', H', ?_⟩
    rw [b_62_27, if_pos (show (0 : Int32) < nI (j + 1) from nI_lt (a := 0) (by omega) (by omega)), gR_46_12 w, gR_46_12 w, ld_54 w (by omega), H2 (j + 1) (Nat.le_refl _), gR_46_12 w, nI_pred, ld_54 w (by omega), H2 j (by omega), show (10 : Int32) = nI 10 from rfl, pk_sub t10, nI_l (by omega), nI_l (by omega), lN_mul, lN_mul, lN_add, st_54 w (by omega), subI, nI_pred, ← et]
    rw [← et] at e'
    exact e'
theorem c_tenA {h : av_H} (w : WF h) {ta e s t : Nat} (hta : ta = 50 ∨ ta = 51) (e5 : e < 5) (s4 : s < 4) (hc : h.2.1 ta (e * 4 + s) = nI t) : ev X (d + 2) 49 [vr (some ta), vi (nI e), vi (nI s)] h = av_rI (nI t) h := by
  rcases hta with rfl | rfl
  · exact c_ten w e5 s4 hc
  · rw [e_49, b_49_0, ln_51 w, show (4 : Int32) = nI 4 from rfl, pk_mul, nI_add, c_below', toI_nI (by decide), show rg (nI (e * 4 + s)) 0 (((20 : Nat) : Int) - 1) = true from rg_lt2 (n := 19) (by omega) (by omega), if_neg (show ¬ bI true = 0 by decide), ld_51 w (by omega), hc]
theorem od_lp {ta s dd : Nat} (hta : ta = 50 ∨ ta = 51) (s4 : s < 4) (d32 : dd < 32) (ht : ∀ e s, e < 5 → s < 4 → tn e s ≤ 10 ∧ h0.2.1 ta (e * 4 + s) = nI (tn e s)) : ∀ m e h, e + m = 5 → WF h → offQ [54] h0 h → (∀ k, k < 6 → h.2.2.1 54 k = lN (od (tD tn s dd) e k)) → ∃ h', WF h' ∧ offQ [54] h0 h' ∧ (∀ k, k < 6 → h'.2.2.1 54 k = lN (od (tD tn s dd) 5 k)) ∧ bd X (d + 2) 62 11 [(0, vr (some 46)), (1, vr (some ta)), (2, vi (nI s)), (3, vi (nI dd)), (4, vi (nI e))] [] h = av_rV h'
  | 0, e, h, he, w, O, H => by
    obtain rfl : e = 5 := by omega
    exact ⟨h, w, O, H, by rw [b_62_11, if_neg (show ¬ nI 5 < 5 by decide)]⟩
  | m + 1, e, h, he, w, O, H => by
    have t10 : tD tn s dd e ≤ 10 := by
      rw [tD]
      split
      · exact (ht e s (by omega) s4).1
      · omega
    obtain ⟨h1, w1, O1, H1, e1⟩ := oi_lp (X := X) (d := d) (h0 := h0) (ta := ta) (v2 := nI s) (v3 := nI dd) (t := tD tn s dd) (e := e) rfl t10 5 h (Nat.le_refl _) w O (fun k hk hk2 => absurd hk2 (by omega)) (fun k hk => H k (by omega))
    obtain ⟨h2, w2, O2, H2, e2⟩ := od_lp hta s4 d32 ht m (e + 1) h1 (by omega) w1 O1 H1
    refine ⟨h2, w2, O2, H2, ?_⟩
    have hA : h.2.1 ta (e * 4 + s) = nI (tn e s) := by
      have A := O.1.fr (q := false) (cs := [50, 51]) (fs := []) (by decide)
      rcases hta with rfl | rfl <;> exact (A.I rfl).trans (ht e s (by omega) s4).2
    rw [b_62_11, if_pos (show nI e < 5 from nI_lt (b := 5) (by omega) (by omega)), c_hasBit' (by omega) (by omega)]
    cases z : dd.testBit e with
    | false =>
      rw [if_pos (show bI false = 0 from rfl)]
      have tz : tD tn s dd e = 0 := by rw [tD, z, if_neg (by decide)]
      rw [tz] at e1
      exact e1.trans e2
    | true =>
      have tz : tD tn s dd e = tn e s := by rw [tD, z, if_pos rfl]
      rw [tz] at e1
      rw [if_neg (show ¬ bI true = 0 by decide), c_tenA w hta (by omega) s4 hA, av_cI_r, Option.bind_some]
      exact e1.trans e2
theorem c_odds {ta s dd : Nat} (hta : ta = 50 ∨ ta = 51) (s4 : s < 4) (d32 : dd < 32) (w : WF h0) (ht : ∀ e s, e < 5 → s < 4 → tn e s ≤ 10 ∧ h0.2.1 ta (e * 4 + s) = nI (tn e s)) : ∃ h', WF h' ∧ offQ [54] h0 h' ∧ (∀ k, k < 6 → h'.2.2.1 54 k = lN (od (tD tn s dd) 5 k)) ∧ ev X (d + 3) 62 [vr (some 46), vr (some ta), vi (nI s), vi (nI dd)] h0 = av_rV h' := by
  have k54 := w.k (a := 54) (q := (101, 6)) rfl
  have w1 : WF (fillL h0 54 6 0) := WF_fillL w
  have w2 : WF (av_uL (fillL h0 54 6 0) 54 0 1) := WF_uL w1
  obtain ⟨h', w', O', H', e'⟩ := od_lp (X := X) (d := d) (h0 := h0) hta s4 d32 ht 5 0 (av_uL (fillL h0 54 6 0) 54 0 1) (by omega) w2 (offQ.l ⟨agr.fillL (fun k => rfl) agr.rfl, rfl⟩ rfl) (fun k hk => by
    by_cases z : k = 0
    · rw [z, uL_eq]
      rfl
    · rw [uL_nk z, fillL_L hk, od, if_neg z]
      rfl)
  refine ⟨h', w', O', H', ?_⟩
  rw [e_62, b_62_0, gR_46_12 w, c_fillL' k54 (by decide), gR_46_12 w1, show (0 : Int32) = nI 0 from rfl, st_54 w1 (show 0 < 6 by decide)]
  exact e'
theorem wb_lp {h : av_H} (O : wnO n p S W) (w : WF h) {s dd : Nat} (H5 : ∀ j, j < 6 → h.2.1 55 j = nI (wtN n c p S W 255 s j)) (H4 : ∀ k, k < 6 → h.2.2.1 54 k = lN (od (tD tn s dd) 5 k)) : ∀ m k, k + m = 6 → bd X (d + 1) 63 4 [(0, vr (some 46)), (1, vl (lN (sN (fun k => od (tD tn s dd) 5 k * wtN n c p S W 255 s k) k))), (3, vi (nI k))] [] h = av_rL (lN (vS n c p S W tn s dd)) h
  | 0, k, hk => by
    obtain rfl : k = 6 := by omega
    rw [b_63_4, if_pos (show (5 : Int32) < nI 6 by decide)]
    rfl
  | m + 1, k, hk => by
    have ih := wb_lp O w H5 H4 m (k + 1) (by omega)
    have wl := wt_le O (c := c) (A := 255) (s := s) k
    rw [sN] at ih
    rw [b_63_4, if_neg (show ¬ (5 : Int32) < nI k from nI_nlt (a := 5) (by omega) (by omega)), gR_46_12 w, ld_54 w (by omega), H4 k (by omega), gR_46_13 w, ld_55 w (by omega), H5 k (by omega), nI_l (by omega), lN_mul, lN_add, nI_1]
    exact ih
theorem c_byOdds {h : av_H} (O : wnO n p S W) (w : WF h) {s dd : Nat} (H5 : ∀ j, j < 6 → h.2.1 55 j = nI (wtN n c p S W 255 s j)) (H4 : ∀ k, k < 6 → h.2.2.1 54 k = lN (od (tD tn s dd) 5 k)) : ev X (d + 2) 63 [vr (some 46)] h = av_rL (lN (vS n c p S W tn s dd)) h := by
  rw [e_63, b_63_0]
  exact wb_lp O w H5 H4 6 0 (by omega)
/-- all sides, all sets of days -/
theorem fd_lp (O : wnO n p S W) {ta s : Nat} (hta : ta = 50 ∨ ta = 51) (s4 : s < 4) (ht : ∀ e s, e < 5 → s < 4 → tn e s ≤ 10 ∧ h0.2.1 ta (e * 4 + s) = nI (tn e s)) : ∀ m dd h, dd + m = 32 → WF h → offQ [53, 54, 55] h0 h → (∀ j, j < 6 → h.2.1 55 j = nI (wtN n c p S W 255 s j)) → (∀ s' x, s' < 4 → x < 32 → (s' < s ∨ (s' = s ∧ x < dd)) → h.2.2.1 53 (s' * 32 + x) = lN (vS n c p S W tn s' x)) → ∃ h', WF h' ∧ offQ [53, 54, 55] h0 h' ∧ (∀ s' x, s' < 4 → x < 32 → s' ≤ s → h'.2.2.1 53 (s' * 32 + x) = lN (vS n c p S W tn s' x)) ∧ bd X (d + 3) 59 10 [(0, vr (some 46)), (1, vr (some ta)), (2, vi (nI s)), (3, vi (nI dd))] [] h = bd X (d + 3) 59 2 [(0, vr (some 46)), (1, vr (some ta)), (2, vi (nI (s + 1)))] [] h'
  | 0, dd, h, hd, w, O1, H5, H => by
    obtain rfl : dd = 32 := by omega
    refine ⟨h, w, O1, fun s' x h1 h2 h3 => H s' x h1 h2 (by omega), ?_⟩
    rw [b_59_10, if_neg (show ¬ nI 32 < 32 by decide), nI_1]
  | m + 1, dd, h, hd, w, O1, H5, H => by
    have hA : ∀ e s, e < 5 → s < 4 → tn e s ≤ 10 ∧ h.2.1 ta (e * 4 + s) = nI (tn e s) := fun e s he hs => by
      have A := O1.1.fr (q := false) (cs := [50, 51]) (fs := []) (by decide)
      refine ⟨(ht e s he hs).1, ?_⟩
      rcases hta with rfl | rfl <;> exact (A.I rfl).trans (ht e s he hs).2
    obtain ⟨h1, w1, o1, H4, e1⟩ := c_odds (X := X) (d := d) (h0 := h) (dd := dd) hta s4 (by omega) w hA
    have H5' : ∀ j, j < 6 → h1.2.1 55 j = nI (wtN n c p S W 255 s j) := fun j hj => ((o1.1.fr (q := false) (cs := [55]) (fs := []) (by decide)).I rfl).trans (H5 j hj)
    have e2 := c_byOdds (X := X) (d := d + 1) O w1 H5' H4
    obtain ⟨h2, w2, O2, H2, e3⟩ := fd_lp O hta s4 ht m (dd + 1) (av_uL h1 53 (s * 32 + dd) (lN (vS n c p S W tn s dd))) (by omega) (WF_uL w1) ((O1.t o1 (by decide)).l rfl) (fun j hj => H5' j hj) (fun s' x h1' h2' h3' => by
      by_cases z : s' * 32 + x = s * 32 + dd
      · rw [z, uL_eq, show s' = s by omega, show x = dd by omega]
      · rw [uL_nk z, (o1.1.fr (q := false) (cs := [53]) (fs := []) (by decide)).L rfl]
        exact H s' x h1' h2' (by omega))
    refine ⟨h2, w2, O2, H2, ?_⟩
    rw [b_59_10, if_pos (show nI dd < 32 from nI_lt (b := 32) (by omega) (by omega)), is_46 w, e1, av_cV_r, Option.bind_some, gR_46_11 w1, is_46 w1, e2, av_cL_r, Option.bind_some, show (32 : Int32) = nI 32 from rfl, pk_mul, nI_add, st_53 w1 (by omega), nI_1]
    exact e3
theorem fs_lp (O : wnO n p S W) (C0 : wnC h0 n p S W) (hc0 : h0.2.1 46 4 = nI c) (c8 : c ≤ 8) {ta : Nat} (hta : ta = 50 ∨ ta = 51) (ht : ∀ e s, e < 5 → s < 4 → tn e s ≤ 10 ∧ h0.2.1 ta (e * 4 + s) = nI (tn e s)) : ∀ m s h, s + m = 4 → WF h → offQ [53, 54, 55] h0 h → (∀ s' x, s' < 4 → x < 32 → s' < s → h.2.2.1 53 (s' * 32 + x) = lN (vS n c p S W tn s' x)) → ∃ h', WF h' ∧ offQ [53, 54, 55] h0 h' ∧ (∀ s' x, s' < 4 → x < 32 → h'.2.2.1 53 (s' * 32 + x) = lN (vS n c p S W tn s' x)) ∧ bd X (d + 3) 59 2 [(0, vr (some 46)), (1, vr (some ta)), (2, vi (nI s))] [] h = bd X (d + 3) 59 40 [(0, vr (some 46)), (2, vi 0)] [] (av_uL (av_uI h' 46 14 0) 46 15 (-1))
  | 0, s, h, hs, w, O1, H => by
    obtain rfl : s = 4 := by omega
    refine ⟨h, w, O1, fun s' x h1 h2 => H s' x h1 h2 h1, ?_⟩
    rw [b_59_2, if_neg (show ¬ nI 4 < 4 by decide), pI_46 w, pL_46 (WF_uI w)]
  | m + 1, s, h, hs, w, O1, H => by
    obtain ⟨h1, w1, o1, H5, e1⟩ := c_times (X := X) (d := d) (h0 := h) O (C0.fr (O1.1.fr (by decide))) (((O1.1.fr (q := false) (cs := []) (fs := [(46, 4)]) (by decide)).I rfl).trans hc0) c8 (show s < 4 by omega) w
    obtain ⟨h2, w2, O2, H2, e2⟩ := fd_lp (X := X) (d := d) (h0 := h0) O hta (show s < 4 by omega) ht 32 0 h1 (by omega) w1 (O1.t o1 (by decide)) H5 (fun s' x h1' h2' h3' => by
      rw [(o1.1.fr (q := false) (cs := [53]) (fs := []) (by decide)).L rfl]
      exact H s' x h1' h2' (by omega))
    obtain ⟨h3, w3, O3, H3, e3⟩ := fs_lp O C0 hc0 c8 hta ht m (s + 1) h2 (by omega) w2 O2 (fun s' x h1' h2' h3' => H2 s' x h1' h2' (by omega))
    refine ⟨h3, w3, O3, H3, ?_⟩
    rw [b_59_2, if_pos (show nI s < 4 from nI_lt (b := 4) (by omega) (by omega)), is_46 w, e1, av_cV_r, Option.bind_some]
    exact e2.trans e3
end
