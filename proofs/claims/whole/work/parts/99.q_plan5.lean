/-! plan -/
def PD (n c : Nat) (p S W : Nat → Nat) (ch : Nat → Nat → Nat) (h : av_H) : Prop := wnO n p S W ∧ wnC h n p S W ∧ wnR h n S W ∧ (h.2.1 46 4 = nI c ∧ h.2.1 137 68 = nI c) ∧ (1 ≤ c ∧ c ≤ 8) ∧ ∀ e s, e < 5 → s < 4 → ch e s ≤ 10 ∧ h.2.1 50 (e * 4 + s) = nI (ch e s) ∧ h.2.1 188 (4 * e + s) = nI (ch e s)
theorem PD_ex {h : av_H} (Ja : J_wa h) (Jc : J_ca h) (Jh : J_ch h) : ∃ n c p S W ch, PD n c p S W ch h := by
  obtain ⟨n, p, S, W, O, C, R⟩ := Ja.E
  obtain ⟨c, c1, c2, c3, c4⟩ := Jc
  have K : ∀ e s, ∃ t, e < 5 → s < 4 → t ≤ 10 ∧ h.2.1 50 (e * 4 + s) = nI t ∧ h.2.1 188 (4 * e + s) = nI t := fun e s => by
    by_cases he : e < 5
    · by_cases hs : s < 4
      · obtain ⟨t, ht⟩ := Jh e he s hs
        exact ⟨t, fun _ _ => ht⟩
      · exact ⟨0, fun _ y => absurd y hs⟩
    · exact ⟨0, fun y => absurd y he⟩
  exact ⟨n, c, p, S, W, fun e s => Classical.choose (K e s), O, C, R, ⟨c3, c4⟩, ⟨c1, c2⟩, fun e s he hs => Classical.choose_spec (K e s) he hs⟩
section
variable {n c : Nat} {p S W : Nat → Nat} {ch : Nat → Nat → Nat} {h h' : av_H}
theorem PD.fr (P : PD n c p S W ch h) (A : agr (FP false [47, 48, 49, 50, 186, 187, 188] [(46, 0), (46, 4), (137, 64), (137, 68)]) h h') : PD n c p S W ch h' :=
  ⟨P.1, P.2.1.fr (A.sub (by decide)), P.2.2.1.fr (A.sub (by decide)), ⟨(A.I rfl).trans P.2.2.2.1.1, (A.I rfl).trans P.2.2.2.1.2⟩, P.2.2.2.2.1, fun e s he hs => ⟨(P.2.2.2.2.2 e s he hs).1, (A.I rfl).trans (P.2.2.2.2.2 e s he hs).2.1, (A.I rfl).trans (P.2.2.2.2.2 e s he hs).2.2⟩⟩
theorem PD.C (P : PD n c p S W ch h) (hL : h.1.length ≤ 1000000) : PC n c p S W ch h := ⟨P.1, P.2.1, P.2.2.2.1.1, P.2.2.2.2.1.2, fun e s he hs => ⟨(P.2.2.2.2.2 e s he hs).1, (P.2.2.2.2.2 e s he hs).2.1⟩, hL⟩
theorem PD.R (P : PD n c p S W ch h) : PR n c p S W ch h := ⟨P.1, P.2.2.1, P.2.2.2.1.2, P.2.2.2.2.1.2, fun e s he hs => ⟨(P.2.2.2.2.2 e s he hs).1, (P.2.2.2.2.2 e s he hs).2.2⟩⟩
theorem KN.fr (K : KN n c p S W ch h) (A : agr (FP false [52] []) h h') : KN n c p S W ch h' := fun e lf he hl => by
  rw [A.L rfl]
  exact K e lf he hl
/-- what is answered -/
def plA (n c : Nat) (p S W : Nat → Nat) (ch : Nat → Nat → Nat) (r lf : Nat) (q : Int32) : Int64 := if q = 2 then (oI (fsS (10 * plN n c p S W ch r lf) (bwV n c p S W ch (plN n c p S W ch r) r lf) 4).1).toInt64 else lwT (plN n c p S W ch (r + 1) lf) (10 ^ (r + 1)) q
end
section
variable {X : av_X} {d : Nat} {n c : Nat} {p S W : Nat → Nat} {ch : Nat → Nat → Nat} {h : av_H}
/-- the guard -/
def plG (n : Nat) (e lf q : Int32) : Bool := rg e 0 4 && (rg lf 0 ((2 ^ n : Nat) - 1 : Int) && rg q 0 2)
theorem pow10 {r : Nat} (hr : r ≤ 5) : (10 : Nat) ^ r < 2 ^ 17 := by
  have : (10 : Nat) ^ r ≤ 10 ^ 5 := Nat.pow_le_pow_right (by decide) hr
  omega
/-- the class answers -/
theorem c_plan (T : XT X) (w : WF h) (P : PD n c p S W ch h) (hL : h.1.length ≤ 1000000) (K : KN n c p S W ch h) {r lf k : Nat} (hr : r ≤ 4) (ll : lf < 2 ^ n) (k3 : k < 3) : ∃ h', WF h' ∧ off false [52] [] h h' ∧ h'.1 = h.1 ∧ KN n c p S W ch h' ∧ ev X (d + 2 * r + 8) 154 [vr (some 0), vi (nI (4 - r)), vi (nI lf), vi (nI k)] h = av_rL (plA n c p S W ch r lf (nI k)) h' := by
  have O := P.1
  have n8 := O.1
  have pn : 2 ^ n ≤ 256 := Nat.pow_le_pow_right (n := 2) (by decide) n8
  have PK0 : PK n c p S W ch h h := ⟨w, agr.rfl, rfl, K⟩
  have g1 : rg (nI (4 - r)) 0 ((5 : Int) - 1) = true := rg_lt2 (n := 4) (by omega) (by omega)
  have g2 : rg (nI lf) 0 (((2 ^ n : Nat) : Int) - 1) = true := by
    have h1 := rg_lt2 (j := lf) (n := 2 ^ n - 1) (by omega) (by omega)
    rw [show ((2 ^ n : Nat) : Int) - 1 = ((2 ^ n - 1 : Nat) : Int) by omega]
    exact h1
  have g3 : rg (nI k) 0 2 = true := rg_lt2 (n := 2) (by omega) (by omega)
  have hch : ∀ e s, e < 5 → s < 4 → ch e s ≤ 10 := fun e s he hs => (P.2.2.2.2.2 e s he hs).1
  by_cases z : k = 2
  · obtain ⟨h1, K1, e1⟩ := c_first (X := X) (d := d + 1) T (P.C hL) hr (show lf < 256 by omega) PK0
    refine ⟨h1, K1.1, K1.2.1, K1.2.2.1, K1.2.2.2, ?_⟩
    rw [e_154, b_154_0, c_below', tI_5, g1, if_neg (show ¬ bI true = 0 by decide), gR_0_9 w, gIv_46_0 w P.2.1.1, nb_sh1 n (by omega), c_below', toI_nI (by omega), g2, if_neg (show ¬ bI true = 0 by decide), c_within', tI_0, tI_2, g3, if_neg (show ¬ bI true = 0 by decide), if_pos (show nI k = 2 by rw [z]; rfl), gR_0_9 w, is_46 w, show d + 2 * r + 7 = d + 1 + 2 * r + 6 by omega, e1, av_cI_r, Option.bind_some, plA, if_pos (show nI k = 2 by rw [z]; rfl)]
  · obtain ⟨h1, K1, e1⟩ := c_best (X := X) (d := d) T (P.C hL) (r + 1) (by omega) lf h (by omega) PK0
    have nz : ¬ nI k = 2 := fun y => z ((nI_eq (b := 2) (by omega) (by omega)).mp y)
    refine ⟨h1, K1.1, K1.2.1, K1.2.2.1, K1.2.2.2, ?_⟩
    have pb := pl_lt O hch (c := c) (lf := lf) (show r + 1 ≤ 5 by omega)
    rw [e_154, b_154_0, c_below', tI_5, g1, if_neg (show ¬ bI true = 0 by decide), gR_0_9 w, gIv_46_0 w P.2.1.1, nb_sh1 n (by omega), c_below', toI_nI (by omega), g2, if_neg (show ¬ bI true = 0 by decide), c_within', tI_0, tI_2, g3, if_neg (show ¬ bI true = 0 by decide), if_neg nz, gR_0_9 w, is_46 w, e_50, b_50_0, is_46 w, show 4 - r = 5 - (r + 1) by omega, show d + 2 * r + 6 = d + 2 * (r + 1) + 4 by omega, e1, av_cL_r, Option.bind_some, av_cL_r, Option.bind_some, show (5 : Int32) = nI 5 from rfl, pk_sub (by omega), show 5 - (5 - (r + 1)) = r + 1 by omega, c_tens T (by rw [K1.2.2.1]; exact hL) (by omega), av_cL_r, Option.bind_some, c_low (by omega) (pow10 (by omega)) (Nat.pow_pos (by decide)), av_cL_r, Option.bind_some, plA, if_neg nz]
/-- the reference answers -/
theorem s_plan (w : WF h) (P : PD n c p S W ch h) {r lf k : Nat} (hr : r ≤ 4) (ll : lf < 2 ^ n) (k3 : k < 3) : ∃ h', WF h' ∧ off false [189] [(137, 0)] h h' ∧ h'.2.1 137 0 = 0 ∧ ev X (d + 5) 329 [vr (some 137), vi (nI (4 - r)), vi (nI lf), vi (nI k)] h = av_rL (plA n c p S W ch r lf (nI k)) h' := by
  have O := P.1
  have n8 := O.1
  have pn : 2 ^ n ≤ 256 := Nat.pow_le_pow_right (n := 2) (by decide) n8
  have wt : WF (th h) := w
  have hch : ∀ e s, e < 5 → s < 4 → ch e s ≤ 10 := fun e s he hs => (P.2.2.2.2.2 e s he hs).1
  have Pt : PD n c p S W ch (th h) := P.fr (agr.uI rfl agr.rfl)
  obtain ⟨h1, w1, O1, L1, e1⟩ := s_find (X := X) (d := d) wt Pt.R
  have P1 : PR n c p S W ch h1 := Pt.R.fr (O1.fr (by decide))
  have g1 : rg (nI (4 - r)) 0 4 = true := rg_lt2 (n := 4) (by omega) (by omega)
  have g3 : rg (nI k) 0 2 = true := rg_lt2 (n := 2) (by omega) (by omega)
  have f0 : (th h).2.1 137 0 = 0 := uI_eq
  have pb := pl_lt O hch (c := c) (lf := lf) (show r + 1 ≤ 5 by omega)
  have l1 := L1 (r + 1) (by omega) lf ll
  rw [show 5 - (r + 1) = 4 - r by omega] at l1
  refine ⟨h1, w1, agr.tr (agr.uI rfl agr.rfl) (O1.up (by decide)), ((O1.fr (q := false) (cs := [137]) (fs := []) (by decide)).I rfl).trans f0, ?_⟩
  rw [e_329, b_329_0, s_within', tI_0, tI_4, g1, if_neg (show ¬ bI true = 0 by decide), if_neg (nI_pos (by omega)), gIv_137_64 w P.2.2.1.1, nb_sh1 n (by omega), if_pos (nI_lt ll (by omega)), s_within', tI_0, tI_2, g3, if_neg (show ¬ bI true = 0 by decide), b_329_22, pI_137 w, th_e, gI_137_0 wt, f0, if_neg (show ¬ (0 : Int32) < 0 by decide), is_137 wt, e1, av_cV_r, Option.bind_some]
  by_cases z : k = 2
  · have z2 : nI k = 2 := by rw [z]; rfl
    rw [if_neg (show ¬ nI k < 2 by rw [z]; decide), plA, if_pos z2, ← rf_fs]
    exact se_lp (d := d + 1) w1 P1 hr ll (L1 r (by omega)) (L1 (r + 1) (by omega)) 4 0 (by omega)
  · have nz : ¬ nI k = 2 := fun y => z ((nI_eq (b := 2) (by omega) (by omega)).mp y)
    rw [if_pos (show nI k < 2 from nI_lt (b := 2) (by omega) (by omega)), gR_137_69 w1, show (256 : Int32) = nI 256 from rfl, pk_mul, nI_add, ld_189 w1 (by omega), l1, show (5 : Int32) = nI 5 from rfl, pk_sub (by omega), show 5 - (4 - r) = r + 1 by omega, s_tens (by omega), av_cL_r, Option.bind_some, s_low (by omega) (pow10 (by omega)) (Nat.pow_pos (by decide)), av_cL_r, Option.bind_some, plA, if_neg nz]
theorem pl_thr (w : WF h) {e lf q : Int32} : bd X (d + 4) 329 21 [(0, vr (some 137)), (1, vi e), (2, vi lf), (3, vi q)] [vr (some 137)] h = av_rL 0 (av_uI h 137 0 1) := by
  have w1 : WF (av_uI h 137 0 1) := w
  rw [b_329_21, b_329_22, pI_137 w, gI_137_0 w1, uI_eq, if_pos (show (0 : Int32) < 1 by decide)]
theorem plan_ok (T : XT X) (w : WF h) (P : PD n c p S W ch h) (hL : h.1.length ≤ 1000000) (K : KN n c p S W ch h) (e lf q : Int32) :
    (∃ v h1 h2, ev X (d + 16) 154 [vr (some 0), vi e, vi lf, vi q] h = av_rL v h1 ∧ ev X (d + 16) 329 [vr (some 137), vi e, vi lf, vi q] h1 = av_rL v h2 ∧ h2.2.1 137 0 = 0 ∧ WF h2 ∧ KN n c p S W ch h2 ∧ off false [52, 189] [(137, 0)] h h2) ∨
    (ev X (d + 16) 154 [vr (some 0), vi e, vi lf, vi q] h = av_rX (av_new h 12 0) ∧ ev X (d + 16) 329 [vr (some 137), vi e, vi lf, vi q] (av_new h 12 0) = av_rL 0 (av_uI (av_new h 12 0) 137 0 1)) := by
  have O := P.1
  have n8 := O.1
  have pn : 2 ^ n ≤ 256 := Nat.pow_le_pow_right (n := 2) (by decide) n8
  have p0 : 0 < 2 ^ n := Nat.two_pow_pos n
  have wn : WF (av_new h 12 0) := WF_new w
  have hl := w.len
  have e64 : (av_new h 12 0).2.1 137 64 = nI n := by rw [new_I (by omega)]; exact P.2.2.1.1
  cases q1 : rg e 0 4 with
  | false =>
    refine Or.inr ⟨?_, ?_⟩
    · rw [e_154, b_154_0, c_below', tI_5, show rg e 0 ((5 : Int) - 1) = false from q1, if_pos (show bI false = 0 from rfl)]
    · rw [e_329, b_329_0, s_within', tI_0, tI_4, q1, if_pos (show bI false = 0 from rfl)]
      exact pl_thr (d := d + 11) wn
  | true =>
    cases q2 : rg lf 0 (((2 ^ n : Nat) : Int) - 1) with
    | false =>
      refine Or.inr ⟨?_, ?_⟩
      · rw [e_154, b_154_0, c_below', tI_5, show rg e 0 ((5 : Int) - 1) = true from q1, if_neg (show ¬ bI true = 0 by decide), gR_0_9 w, gIv_46_0 w P.2.1.1, nb_sh1 n (by omega), c_below', toI_nI (by omega), q2, if_pos (show bI false = 0 from rfl)]
      · rw [e_329, b_329_0, s_within', tI_0, tI_4, q1, if_neg (show ¬ bI true = 0 by decide)]
        by_cases z : lf < 0
        · rw [if_pos z]
          exact pl_thr (d := d + 11) wn
        · have nl : ¬ lf < nI (2 ^ n) := fun y => by
            rw [i_lt, tI_0] at z
            rw [i_lt, toI_nI (by omega)] at y
            have : rg lf 0 (((2 ^ n : Nat) : Int) - 1) = true := by
              simp only [rg, Bool.and_eq_true, decide_eq_true_eq]
              omega
            rw [q2] at this
            cases this
          rw [if_neg z, gIv_137_64 wn e64, nb_sh1 n (by omega), if_neg nl]
          exact pl_thr (d := d + 11) wn
    | true =>
      have q2' : rg lf 0 ((2 ^ n - 1 : Nat) : Int) = true := by
        rw [show ((2 ^ n - 1 : Nat) : Int) = ((2 ^ n : Nat) : Int) - 1 by omega]
        exact q2
      obtain ⟨lf, hl2, rfl⟩ := rg_nI (b := 2 ^ n - 1) (by omega) q2'
      have ll : lf < 2 ^ n := by omega
      obtain ⟨e, he, rfl⟩ := rg_nI (b := 4) (by decide) q1
      cases q3 : rg q 0 2 with
      | false =>
        refine Or.inr ⟨?_, ?_⟩
        · rw [e_154, b_154_0, c_below', tI_5, show rg (nI e) 0 ((5 : Int) - 1) = true from q1, if_neg (show ¬ bI true = 0 by decide), gR_0_9 w, gIv_46_0 w P.2.1.1, nb_sh1 n (by omega), c_below', toI_nI (by omega), q2, if_neg (show ¬ bI true = 0 by decide), c_within', tI_0, tI_2, q3, if_pos (show bI false = 0 from rfl)]
        · rw [e_329, b_329_0, s_within', tI_0, tI_4, q1, if_neg (show ¬ bI true = 0 by decide), if_neg (nI_pos (by omega)), gIv_137_64 wn e64, nb_sh1 n (by omega), if_pos (nI_lt ll (by omega)), s_within', tI_0, tI_2, q3, if_pos (show bI false = 0 from rfl)]
          exact pl_thr (d := d + 11) wn
      | true =>
        obtain ⟨k, hk, rfl⟩ := rg_nI (b := 2) (by decide) q3
        obtain ⟨h1, w1, o1, l1, K1, e1⟩ := c_plan (X := X) (d := d + (8 - 2 * (4 - e))) T w P hL K (show 4 - e ≤ 4 by omega) ll (show k < 3 by omega)
        have P1 : PD n c p S W ch h1 := P.fr (o1.fr (by decide))
        obtain ⟨h2, w2, o2, f2, e2⟩ := s_plan (X := X) (d := d + 11) w1 P1 (show 4 - e ≤ 4 by omega) ll (show k < 3 by omega)
        rw [show 4 - (4 - e) = e by omega] at e1 e2
        rw [show d + (8 - 2 * (4 - e)) + 2 * (4 - e) + 8 = d + 16 by omega] at e1
        exact Or.inl ⟨_, h1, h2, e1, e2, f2, w2, K1.fr (o2.fr (by decide)), agr.tr (o1.up (by decide)) (o2.up (by decide))⟩
end
