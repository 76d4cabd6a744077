/-! gangs: the reference's tables, all of them -/
/-- the tables are right for the last k people -/
def GA (isE : Nat → Bool) (tg : Nat → Nat → Nat) (h : av_H) (k : Nat) : Prop := ∀ q, q ≤ k → GT isE tg h (10 - q)
section
variable {X : av_X} {d : Nat} {isE : Nat → Bool} {tg : Nat → Nat → Nat} {h0 : av_H}
theorem gl_lp (G0 : GP isE tg h0) {k : Nat} (hk : k ≤ 9) : ∀ m L h, L + m = 1024 → WF h → off false [191, 192] [] h0 h → GA isE tg h k → (∀ L', L' < L → h.2.1 191 (1024 * (9 - k) + L') = nI (gN isE tg (k + 1) L').2 ∧ h.2.1 192 (1024 * (9 - k) + L') = nI (gN isE tg (k + 1) L').1) → ∃ h', WF h' ∧ off false [191, 192] [] h0 h' ∧ GA isE tg h' (k + 1) ∧ bd X (d + 1) 334 27 [(0, vr (some 137)), (1, vi (nI (9 - k))), (2, vi (nI L))] [] h = bd X (d + 1) 334 23 [(0, vr (some 137)), (1, vi (nI (9 - k) + (-1)))] [] h'
  | 0, L, h, hL, w, O, T, H => by
    obtain rfl : L = 1024 := by omega
    refine ⟨h, w, O, fun q hq => ?_, ?_⟩
    · by_cases z : q = k + 1
      · rw [z]
        intro L hL
        rw [show 10 - (10 - (k + 1)) = k + 1 by omega, show 10 - (k + 1) = 9 - k by omega]
        exact H L hL
      · exact T q (by omega)
    · rw [b_334_27, if_neg (show ¬ nI 1024 < 1024 by decide)]
  | m + 1, L, h, hL, w, O, T, H => by
    obtain ⟨t1, t2⟩ := T k (Nat.le_refl _) L (by omega)
    rw [show 10 - (10 - k) = k by omega] at t1 t2
    have G := G0.fr (O.fr (by decide))
    have ix : 1024 * (9 - k) + L + 1024 = 1024 * (10 - k) + L := by omega
    have w1 : WF (av_uI h 191 (1024 * (9 - k) + L) (nI (gN isE tg k L).2)) := WF_uI w
    rw [b_334_27, if_pos (show nI L < 1024 from nI_lt (b := 1024) (by omega) (by omega)), gR_137_71 w, gR_137_71 w, show (1024 : Int32) = nI 1024 from rfl, pk_mul, nI_add, nI_add, ix, ld_191 w (by omega), t1, st_191 w (by omega), gR_137_72 w1, gR_137_72 w1, ld_192 w1 (by omega), uI_ne (by decide), t2, st_192 w1 (by omega)]
    have w2 : WF (av_uI (av_uI h 191 (1024 * (9 - k) + L) (nI (gN isE tg k L).2)) 192 (1024 * (9 - k) + L) (nI (gN isE tg k L).1)) := WF_uI w1
    have O2 : off false [191, 192] [] h0 (av_uI (av_uI h 191 (1024 * (9 - k) + L) (nI (gN isE tg k L).2)) 192 (1024 * (9 - k) + L) (nI (gN isE tg k L).1)) := agr.uI rfl (agr.uI rfl O)
    have c1 : ∀ j, j ≠ 1024 * (9 - k) + L → (av_uI (av_uI h 191 (1024 * (9 - k) + L) (nI (gN isE tg k L).2)) 192 (1024 * (9 - k) + L) (nI (gN isE tg k L).1)).2.1 191 j = h.2.1 191 j ∧ (av_uI (av_uI h 191 (1024 * (9 - k) + L) (nI (gN isE tg k L).2)) 192 (1024 * (9 - k) + L) (nI (gN isE tg k L).1)).2.1 192 j = h.2.1 192 j := fun j hj => by
      rw [uI_ne (by decide), uI_nk hj, uI_nk hj, uI_ne (by decide)]
      exact ⟨rfl, rfl⟩
    have c2 : (av_uI (av_uI h 191 (1024 * (9 - k) + L) (nI (gN isE tg k L).2)) 192 (1024 * (9 - k) + L) (nI (gN isE tg k L).1)).2.1 191 (1024 * (9 - k) + L) = nI (gN isE tg k L).2 := by rw [uI_ne (by decide), uI_eq]
    have c3 : (av_uI (av_uI h 191 (1024 * (9 - k) + L) (nI (gN isE tg k L).2)) 192 (1024 * (9 - k) + L) (nI (gN isE tg k L).1)).2.1 192 (1024 * (9 - k) + L) = nI (gN isE tg k L).1 := uI_eq
    generalize av_uI (av_uI h 191 (1024 * (9 - k) + L) (nI (gN isE tg k L).2)) 192 (1024 * (9 - k) + L) (nI (gN isE tg k L).1) = g at w2 O2 c1 c2 c3 ⊢
    have TA : ∀ {h' : av_H}, (∀ j, j ≠ 1024 * (9 - k) + L → h'.2.1 191 j = g.2.1 191 j ∧ h'.2.1 192 j = g.2.1 192 j) → GA isE tg h' k := fun {h'} a q hq L' hL' => by
      rw [(a _ (by omega)).1, (a _ (by omega)).2, (c1 _ (by omega)).1, (c1 _ (by omega)).2]
      exact T q hq L' hL'
    have HA : ∀ {h' : av_H}, (∀ j, j ≠ 1024 * (9 - k) + L → h'.2.1 191 j = g.2.1 191 j ∧ h'.2.1 192 j = g.2.1 192 j) → h'.2.1 191 (1024 * (9 - k) + L) = nI (gN isE tg (k + 1) L).2 → h'.2.1 192 (1024 * (9 - k) + L) = nI (gN isE tg (k + 1) L).1 → ∀ L', L' < L + 1 → h'.2.1 191 (1024 * (9 - k) + L') = nI (gN isE tg (k + 1) L').2 ∧ h'.2.1 192 (1024 * (9 - k) + L') = nI (gN isE tg (k + 1) L').1 := fun {h'} a b1 b2 L' hL' => by
      by_cases z : L' = L
      · rw [z]
        exact ⟨b1, b2⟩
      · rw [(a _ (by omega)).1, (a _ (by omega)).2, (c1 _ (by omega)).1, (c1 _ (by omega)).2]
        exact H L' (by omega)
    cases z : isE (9 - k) with
    | true =>
      have Gg := G0.fr (O2.fr (by decide))
      have en : gN isE tg (k + 1) L = gN isE tg k L := by rw [gN, z, if_pos rfl]
      rw [b_334_58, if_pos (show (0 : Int32) < 10 by decide), gR_137_28 w2, ld_159 w2 (by omega), Gg.1 (9 - k) (by omega), z, if_neg (show ¬ bI true = 0 by decide), nI_1]
      exact gl_lp G0 hk m (L + 1) g (by omega) w2 O2 (TA (fun _ _ => ⟨rfl, rfl⟩)) (HA (fun _ _ => ⟨rfl, rfl⟩) (by rw [en]; exact c2) (by rw [en]; exact c3))
    | false =>
      have en : gN isE tg (k + 1) L = gI isE tg (gN isE tg k) (9 - k) L 10 := by rw [gN, z, if_neg (by decide)]
      obtain ⟨h', a1, a2, a3, a4, a5, a6⟩ := ge_lp (X := X) (d := d) G0 hk (by omega) z 10 0 g (by omega) w2 O2 (TA (fun _ _ => ⟨rfl, rfl⟩) k (Nat.le_refl _)) c2 c3
      rw [← en] at a4 a5
      rw [show (0 : Int32) = nI 0 from rfl, a6]
      exact gl_lp G0 hk m (L + 1) h' (by omega) a1 a2 (TA a3) (HA a3 a4 a5)
theorem gp_lp (G0 : GP isE tg h0) : ∀ m k h, k + m = 10 → WF h → off false [191, 192] [] h0 h → GA isE tg h k → ∃ h', WF h' ∧ off false [191, 192] [] h0 h' ∧ GA isE tg h' 10 ∧ bd X (d + 1) 334 23 [(0, vr (some 137)), (1, vi (nI (10 - k) + (-1)))] [] h = av_rV h'
  | 0, k, h, hk, w, O, T => by
    obtain rfl : k = 10 := by omega
    exact ⟨h, w, O, T, by rw [b_334_23, if_pos (show nI (10 - 10) + (-1) < 0 by decide)]⟩
  | m + 1, k, h, hk, w, O, T => by
    obtain ⟨h1, a1, a2, a3, a4⟩ := gl_lp (X := X) (d := d) G0 (show k ≤ 9 by omega) 1024 0 h (by omega) w O T (fun L' hL' => absurd hL' (by omega))
    obtain ⟨h2, b1, b2, b3, b4⟩ := gp_lp G0 m (k + 1) h1 (by omega) a1 a2 a3
    refine ⟨h2, b1, b2, b3, ?_⟩
    rw [m1s, nI_prd (by omega), show 10 - k - 1 = 9 - k by omega, b_334_23, if_neg (fun y => absurd (i_lt.mp y) (by rw [nI_toInt (by omega)]; simp)), show (0 : Int32) = nI 0 from rfl, a4, ← b4, show 10 - (k + 1) = 9 - k by omega]
theorem gi_lp : ∀ m L h, L + m = 1024 → WF h → off false [191, 192] [] h0 h → (∀ L', L' < L → h.2.1 191 (10240 + L') = 0 ∧ h.2.1 192 (10240 + L') = 0) → ∃ h', WF h' ∧ off false [191, 192] [] h0 h' ∧ GA isE tg h' 0 ∧ bd X (d + 1) 334 2 [(0, vr (some 137)), (1, vi (nI L))] [] h = bd X (d + 1) 334 23 [(0, vr (some 137)), (1, vi 9)] [] h'
  | 0, L, h, hL, w, O, H => by
    obtain rfl : L = 1024 := by omega
    refine ⟨h, w, O, fun q hq L hL => ?_, ?_⟩
    · obtain rfl : q = 0 := by omega
      exact H L hL
    · rw [b_334_2, if_neg (show ¬ nI 1024 < 1024 by decide)]
  | m + 1, L, h, hL, w, O, H => by
    have w1 : WF (av_uI h 191 (10240 + L) 0) := WF_uI w
    rw [b_334_2, if_pos (show nI L < 1024 from nI_lt (b := 1024) (by omega) (by omega)), gR_137_71 w, show (10240 : Int32) = nI 10240 from rfl, nI_add, st_191 w (by omega), gR_137_72 w1, st_192 w1 (by omega), nI_1]
    refine gi_lp m (L + 1) _ (by omega) (WF_uI w1) (agr.uI rfl (agr.uI rfl O)) (fun L' hL' => ?_)
    by_cases z : L' = L
    · rw [z, uI_ne (by decide), uI_eq, uI_eq]
      exact ⟨rfl, rfl⟩
    · rw [uI_ne (by decide), uI_nk (by omega), uI_nk (by omega), uI_ne (by decide)]
      exact H L' (by omega)
theorem s_fg (G0 : GP isE tg h0) (w : WF h0) : ∃ h', WF h' ∧ off false [191, 192] [] h0 h' ∧ GA isE tg h' 10 ∧ ev X (d + 2) 334 [vr (some 137)] h0 = av_rV h' := by
  obtain ⟨h1, a1, a2, a3, a4⟩ := gi_lp (X := X) (d := d) (isE := isE) (tg := tg) (h0 := h0) 1024 0 h0 (by omega) w agr.rfl (fun L' hL' => absurd hL' (by omega))
  obtain ⟨h2, b1, b2, b3, b4⟩ := gp_lp (X := X) (d := d) G0 10 0 h1 (by omega) a1 a2 a3
  refine ⟨h2, b1, b2, b3, ?_⟩
  rw [e_334, b_334_0, show (0 : Int32) = nI 0 from rfl, a4, show (9 : Int32) = nI (10 - 0) + (-1) by decide, b4]
end
