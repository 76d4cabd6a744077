/-! plan and fixed, with the law's array written in between -/
section
variable {X : av_X} {d : Nat} {h : av_H} {n c : Nat} {p S W : Nat → Nat} {ch : Nat → Nat → Nat}
theorem plan_ok2 (T : XT X) (w : WF h) (P : PD n c p S W ch h) (hL : h.1.length ≤ 1000000) (K : KN n c p S W ch h) (e lf q : Int32) :
    (∃ v h1, ev X (d + 16) 154 [vr (some 0), vi e, vi lf, vi q] h = av_rL v h1 ∧ WF h1 ∧ ∀ y : Int64, ∃ h2, ev X (d + 16) 329 [vr (some 137), vi e, vi lf, vi q] (av_uL h1 225 0 y) = av_rL v h2 ∧ h2.2.1 137 0 = 0 ∧ h2.2.2.1 225 0 = y ∧ WF h2 ∧ KN n c p S W ch h2 ∧ off false [52, 189, 225] [(137, 0)] h h2) ∨
    (ev X (d + 16) 154 [vr (some 0), vi e, vi lf, vi q] h = av_rX (av_new h 12 0) ∧ ev X (d + 16) 329 [vr (some 137), vi e, vi lf, vi q] (av_new h 12 0) = av_rL 0 (av_uI (av_new h 12 0) 137 0 1)) := by
  have O := P.1
  have n8 := O.1
  have pn : 2 ^ n ≤ 256 := Nat.pow_le_pow_right (n := 2) (by decide) n8
  have p0 : 0 < 2 ^ n := Nat.two_pow_pos n
  have wn : WF (av_new h 12 0) := WF_new w
  have hl := w.len
  have e64 : (av_new h 12 0).2.1 137 64 = nI n := by rw [new_I (by omega)]; exact P.2.2.1.1
  cases q1 : rg e 0 4 with
  | false =>
    refine Or.inr ⟨?_, ?_⟩
    · rw [e_154, b_154_0, c_below', tI_5, show rg e 0 ((5 : Int) - 1) = false from q1, if_pos (show bI false = 0 from rfl)]
    · rw [e_329, b_329_0, s_within', tI_0, tI_4, q1, if_pos (show bI false = 0 from rfl)]
      exact pl_thr (d := d + 11) wn
  | true =>
    cases q2 : rg lf 0 (((2 ^ n : Nat) : Int) - 1) with
    | false =>
      refine Or.inr ⟨?_, ?_⟩
      · rw [e_154, b_154_0, c_below', tI_5, show rg e 0 ((5 : Int) - 1) = true from q1, if_neg (show ¬ bI true = 0 by decide), gR_0_9 w, gIv_46_0 w P.2.1.1, nb_sh1 n (by omega), c_below', toI_nI (by omega), q2, if_pos (show bI false = 0 from rfl)]
      · rw [e_329, b_329_0, s_within', tI_0, tI_4, q1, if_neg (show ¬ bI true = 0 by decide)]
        by_cases z : lf < 0
        · rw [if_pos z]
          exact pl_thr (d := d + 11) wn
        · have nl : ¬ lf < nI (2 ^ n) := fun y => by
            rw [i_lt, tI_0] at z
            rw [i_lt, toI_nI (by omega)] at y
            have : rg lf 0 (((2 ^ n : Nat) : Int) - 1) = true := by
              simp only [rg, Bool.and_eq_true, decide_eq_true_eq]
              omega
            rw [q2] at this
            cases this
          rw [if_neg z, gIv_137_64 wn e64, nb_sh1 n (by omega), if_neg nl]
          exact pl_thr (d := d + 11) wn
    | true =>
      have q2' : rg lf 0 ((2 ^ n - 1 : Nat) : Int) = true := by
        rw [show ((2 ^ n - 1 : Nat) : Int) = ((2 ^ n : Nat) : Int) - 1 by omega]
        exact q2
      obtain ⟨lf, hl2, rfl⟩ := rg_nI (b := 2 ^ n - 1) (by omega) q2'
      have ll : lf < 2 ^ n := by omega
      obtain ⟨e, he, rfl⟩ := rg_nI (b := 4) (by decide) q1
      cases q3 : rg q 0 2 with
      | false =>
        refine Or.inr ⟨?_, ?_⟩
        · rw [e_154, b_154_0, c_below', tI_5, show rg (nI e) 0 ((5 : Int) - 1) = true from q1, if_neg (show ¬ bI true = 0 by decide), gR_0_9 w, gIv_46_0 w P.2.1.1, nb_sh1 n (by omega), c_below', toI_nI (by omega), q2, if_neg (show ¬ bI true = 0 by decide), c_within', tI_0, tI_2, q3, if_pos (show bI false = 0 from rfl)]
        · rw [e_329, b_329_0, s_within', tI_0, tI_4, q1, if_neg (show ¬ bI true = 0 by decide), if_neg (nI_pos (by omega)), gIv_137_64 wn e64, nb_sh1 n (by omega), if_pos (nI_lt ll (by omega)), s_within', tI_0, tI_2, q3, if_pos (show bI false = 0 from rfl)]
          exact pl_thr (d := d + 11) wn
      | true =>
        obtain ⟨k, hk, rfl⟩ := rg_nI (b := 2) (by decide) q3
        obtain ⟨h1, w1, o1, l1, K1, e1⟩ := c_plan (X := X) (d := d + (8 - 2 * (4 - e))) T w P hL K (show 4 - e ≤ 4 by omega) ll (show k < 3 by omega)
        rw [show d + (8 - 2 * (4 - e)) + 2 * (4 - e) + 8 = d + 16 by omega, show 4 - (4 - e) = e by omega] at e1
        refine Or.inl ⟨_, h1, e1, w1, fun y => ?_⟩
        have oy : off false [52, 225] [] h (av_uL h1 225 0 y) := agr.uL rfl (o1.up (by decide))
        have wy : WF (av_uL h1 225 0 y) := WF_uL w1
        have P1 : PD n c p S W ch (av_uL h1 225 0 y) := P.fr (oy.fr (by decide))
        obtain ⟨h2, w2, o2, f2, e2⟩ := s_plan (X := X) (d := d + 11) wy P1 (show 4 - e ≤ 4 by omega) ll (show k < 3 by omega)
        rw [show 4 - (4 - e) = e by omega] at e2
        have Ky : KN n c p S W ch (av_uL h1 225 0 y) := K1.fr (agr.uL rfl agr.rfl)
        exact ⟨h2, e2, f2, ((o2.fr (q := false) (cs := [225]) (fs := []) (by decide)).L rfl).trans uL_eq, w2, Ky.fr (o2.fr (by decide)), agr.tr (oy.up (by decide)) (o2.up (by decide))⟩
theorem fixed_ok2 (T : XT X) (w : WF h) (P : PD n c p S W ch h) (hL : h.1.length ≤ 1000000) (F : FX n c p S W ch h) (q : Int32) :
    (∃ v h1, ev X (d + 9) 155 [vr (some 0), vi q] h = av_rL v h1 ∧ WF h1 ∧ ∀ y : Int64, ∃ h2, ev X (d + 9) 332 [vr (some 137), vi q] (av_uL h1 225 0 y) = av_rL v h2 ∧ h2.2.1 137 0 = 0 ∧ h2.2.2.1 225 0 = y ∧ WF h2 ∧ FX n c p S W ch h2 ∧ off false [53, 54, 55, 225] [(46, 1), (46, 3), (46, 14), (46, 15), (137, 0)] h h2) ∨
    (ev X (d + 9) 155 [vr (some 0), vi q] h = av_rX (av_new h 12 0) ∧ ev X (d + 9) 332 [vr (some 137), vi q] (av_new h 12 0) = av_rL 0 (av_uI (av_new h 12 0) 137 0 1)) := by
  cases q1 : rg q 0 6 with
  | false =>
    refine Or.inr ⟨?_, ?_⟩
    · rw [e_155, b_155_0, c_within', tI_0, tI_6, q1, if_pos (show bI false = 0 from rfl)]
    · have wn : WF (av_new h 12 0) := WF_new w
      have w1 : WF (av_uI (av_new h 12 0) 137 0 1) := WF_uI wn
      rw [e_332, b_332_0, s_within', tI_0, tI_6, q1, if_pos (show bI false = 0 from rfl), b_332_9, pI_137 wn, gI_137_0 w1, uI_eq, if_pos (show (0 : Int32) < 1 by decide)]
  | true =>
    obtain ⟨k, hk, rfl⟩ := rg_nI (b := 6) (by decide) q1
    obtain ⟨h1, w1, o1, l1, F1, e1⟩ := c_fixed (X := X) (d := d + 3) T w hL P F (show k < 7 by omega)
    refine Or.inl ⟨_, h1, e1, w1, fun y => ?_⟩
    have oy : off false [53, 54, 55, 225] [(46, 1), (46, 3), (46, 14), (46, 15)] h (av_uL h1 225 0 y) := agr.uL rfl (o1.up (by decide))
    have wy : WF (av_uL h1 225 0 y) := WF_uL w1
    have P1 : PD n c p S W ch (av_uL h1 225 0 y) := P.fr (oy.fr (by decide))
    have Fy : FX n c p S W ch (av_uL h1 225 0 y) := F1.fr (agr.uL rfl agr.rfl)
    exact ⟨th (av_uL h1 225 0 y), s_fixed wy P1 (by omega), uI_eq, (show (av_uL h1 225 0 y).2.2.1 225 0 = y from uL_eq), WF_uI wy, Fy.fr (agr.uI rfl agr.rfl), agr.uI rfl (oy.up (by decide))⟩
end
