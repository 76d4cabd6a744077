/-! the reader: the reference cuts, all -/
theorem rnE_s {p : Nat → Bool} {b : Nat → Nat} {r j : Nat} (z : p (b j) = true) : rnE p b (r + 1) j = rnE p b r (j + 1) := by rw [rnE, if_pos z]
theorem rnE_n {p : Nat → Bool} {b : Nat → Nat} {r j : Nat} (z : ¬ p (b j) = true) : rnE p b (r + 1) j = j := by rw [rnE, if_neg z]
section
variable {X : av_X} {d : Nat} {b : Nat → Nat} {N : Nat}
theorem s_wlp (G : gdT b N) {h : av_H} (w : WF h) (C : tpR b N h) {k : Nat} {v1 : Int32} : ∀ r j, j + r = N → k ≤ j → bd X (d + 2) 244 40 [(0, vr (some 137)), (1, vi v1), (2, vi (nI j)), (4, vi (nI k)), (5, vl (lN (hvL (rvL b k (min (j - k) 8)))))] [] h = bd X (d + 2) 244 70 [(0, vr (some 137)), (1, vi v1), (2, vi (nI (rnE lzB b r j))), (4, vi (nI k)), (5, vl (lN (hvL (rvL b k (min (rnE lzB b r j - k) 8)))))] [] h := by
  have n1 := G.1
  intro r
  induction r with
  | zero =>
    intro j hj hk
    rw [b_244_40, gI_137_3 w, C.1, if_neg (nI_nlt (by omega) (by omega)), rnE]
  | succ r ih =>
    intro j hj hk
    have bj := G.2 j (by omega)
    conv => lhs; rw [b_244_40]
    rw [gI_137_3 w, C.1, if_pos (nI_lt (by omega) (by omega)), gR_137_1 w, ld_138 w (by omega), C.2 j (by omega), s_letter bj, av_cI_r, Option.bind_some]
    dsimp only
    by_cases z : lzB (b j) = true
    · rw [rnE_s z, ← ih (j + 1) (by omega) (by omega), z, if_neg (show ¬ bI true = 0 by decide), pk_sub hk]
      by_cases y : j - k < 8
      · rw [if_pos (show nI (j - k) < 8 from nI_lt (b := 8) y (by omega)), gR_137_1 w, ld_138 w (by omega), C.2 j (by omega), s_rank bj z, av_cI_r, Option.bind_some, nI_1]
        dsimp only
        rw [show min (j - k) 8 = j - k by omega, show min (j + 1 - k) 8 = (j - k) + 1 by omega, rvL, hvL, show k + (j - k) = j by omega, nI_l (by omega), show (37 : Int64) = lN 37 from rfl, lN_mul, lN_add]
      · rw [if_neg (show ¬ nI (j - k) < 8 from nI_nlt (b := 8) (by omega) (by omega)), nI_1, show min (j - k) 8 = 8 by omega, show min (j + 1 - k) 8 = 8 by omega]
    · rw [rnE_n z, if_pos (show bI (lzB (b j)) = 0 by rw [Bool.not_eq_true] at z; rw [z]; rfl)]
theorem s_nlp (G : gdT b N) {h : av_H} (w : WF h) (C : tpR b N h) {k : Nat} {v1 : Int32} : ∀ r j, j + r = N → k ≤ j → bd X (d + 2) 244 86 [(0, vr (some 137)), (1, vi v1), (2, vi (nI j)), (4, vi (nI k)), (5, vl (lN (nTv b k (min (j - k) 4))))] [] h = bd X (d + 2) 244 117 [(0, vr (some 137)), (1, vi v1), (2, vi (nI (rnE dgB b r j))), (4, vi (nI k)), (5, vl (lN (nTv b k (min (rnE dgB b r j - k) 4))))] [] h := by
  have n1 := G.1
  intro r
  induction r with
  | zero =>
    intro j hj hk
    rw [b_244_86, gI_137_3 w, C.1, if_neg (nI_nlt (by omega) (by omega)), rnE]
  | succ r ih =>
    intro j hj hk
    have bj := G.2 j (by omega)
    conv => lhs; rw [b_244_86]
    rw [gI_137_3 w, C.1, if_pos (nI_lt (by omega) (by omega)), gR_137_1 w, ld_138 w (by omega), C.2 j (by omega), s_dgt bj, av_cI_r, Option.bind_some]
    dsimp only
    by_cases z : dgB (b j) = true
    · have zz := dgB_i z
      rw [rnE_s z, ← ih (j + 1) (by omega) (by omega), z, if_neg (show ¬ bI true = 0 by decide), pk_sub hk]
      by_cases y : j - k < 4
      · rw [if_pos (show nI (j - k) < 4 from nI_lt (b := 4) y (by omega)), gR_137_1 w, ld_138 w (by omega), C.2 j (by omega), nI_1, show min (j - k) 4 = j - k by omega, show min (j + 1 - k) 4 = (j - k) + 1 by omega, nTv, show k + (j - k) = j by omega, nI_l (by omega), show (10 : Int64) = lN 10 from rfl, lN_mul, lN_add, show (48 : Int64) = lN 48 from rfl, lN_sub (by omega), show 10 * nTv b k (j - k) + b j - 48 = nTv b k (j - k) * 10 + (b j - 48) by omega]
      · rw [if_neg (show ¬ nI (j - k) < 4 from nI_nlt (b := 4) (by omega) (by omega)), nI_1, show min (j - k) 4 = 4 by omega, show min (j + 1 - k) 4 = 4 by omega]
    · rw [rnE_n z, if_pos (show bI (dgB (b j)) = 0 by rw [Bool.not_eq_true] at z; rw [z]; rfl)]
/-- one token: what is written for it -/
theorem s_tok (G : gdT b N) {h : av_H} {k m : Nat} (hk : k < N) (hm : m ≤ k) (w : WF h) (C : tpR b N h) (W : J_wd h) (y : ¬ blB (b k) = true) : ∃ s v, tkR (h.2.2.1 142) (tkT b N k) s v ∧ bd X (d + 2) 244 11 [(0, vr (some 137)), (1, vi (nI m)), (2, vi (nI k))] [] h = bd X (d + 2) 244 11 [(0, vr (some 137)), (1, vi (nI (m + 1))), (2, vi (nI (tkE b N k)))] [] (av_uL (av_uI (av_uI h 140 m (nI k)) 139 m s) 141 m v) := by
  have n1 := G.1
  have bk := G.2 k hk
  obtain ⟨t1, t2⟩ := tkE_le (b := b) hk
  have x1 : b k ≠ 10 := fun q => y (by rw [blB, decide_eq_true q, Bool.true_or])
  have x2 : b k ≠ 32 := fun q => y (by rw [blB, decide_eq_true q, Bool.or_true])
  have w1 : WF (av_uI h 140 m (nI k)) := WF_uI w
  have w2 : ∀ s, WF (av_uI (av_uI h 140 m (nI k)) 139 m s) := fun s => WF_uI w1
  have A1 : offT h (av_uI h 140 m (nI k)) := agr.uI rfl agr.rfl
  have C1 := C.fr A1
  have st : bd X (d + 2) 244 11 [(0, vr (some 137)), (1, vi (nI m)), (2, vi (nI k))] [] h = (av_cI (ev X (d + 2) 240 [vi (nI (b k))] (av_uI h 140 m (nI k)))).bind fun q6 => if q6.1 = 0 then ((av_cI (ev X (d + 2) 241 [vi (nI (b k))] q6.2)).bind fun q7 => if q7.1 = 0 then ((av_gR q7.2 (some 137) 11 4).bind fun x8 => (av_cI (ev X (d + 2) 243 [vi (nI (b k))] q7.2)).bind fun q9 => if q9.1 = 0 then ((av_sI q9.2 x8 (nI m) (4 : Int32)).bind fun g10 => (av_gR g10 (some 137) 11 6).bind fun x11 => (av_sL g10 x11 (nI m) ((nI (b k)).toInt64)).bind fun g12 => bd X (d + 2) 244 11 [(0, vr (some 137)), (1, vi (nI m + (1 : Int32))), (2, vi (nI k + (1 : Int32)))] [] g12) else (av_sI q9.2 x8 (nI m) (3 : Int32)).bind fun g13 => (av_gR g13 (some 137) 11 6).bind fun x14 => (av_sL g13 x14 (nI m) ((nI (b k)).toInt64)).bind fun g15 => bd X (d + 2) 244 11 [(0, vr (some 137)), (1, vi (nI m + (1 : Int32))), (2, vi (nI k + (1 : Int32)))] [] g15) else bd X (d + 2) 244 86 [(0, vr (some 137)), (1, vi (nI m)), (2, vi (nI k)), (4, vi (nI k)), (5, vl (0 : Int64))] [] q7.2) else bd X (d + 2) 244 40 [(0, vr (some 137)), (1, vi (nI m)), (2, vi (nI k)), (4, vi (nI k)), (5, vl (0 : Int64))] [] q6.2 := by
    conv => lhs; rw [b_244_11]
    rw [gI_137_3 w, C.1, if_pos (nI_lt hk (by omega)), gR_137_1 w, ld_138 w (by omega), C.2 k hk, if_neg (show ¬ nI (b k) = 10 from fun q => x1 ((nI_eq (b := 10) (by omega) (by omega)).mp q)), if_neg (show ¬ nI (b k) = 32 from fun q => x2 ((nI_eq (b := 32) (by omega) (by omega)).mp q)), gR_137_5 w, st_140 w (by omega)]
  rw [st, s_letter bk, av_cI_r, Option.bind_some]
  dsimp only
  by_cases z : lzB (b k) = true
  · have te : tkE b N k = rnE lzB b (N - k) k := by rw [tkE, if_pos z]
    have L := s_wlp (X := X) (d := d) G w1 C1 (k := k) (v1 := nI m) (N - k) k (by omega) (Nat.le_refl _)
    rw [Nat.sub_self] at L
    have hl : ∀ i, i < tkE b N k - k → 97 ≤ b (k + i) ∧ b (k + i) ≤ 122 := fun i hi => lzB_i (rnE_in (N - k) k (k + i) (by omega) (by rw [← te]; omega))
    rw [z, if_neg (show ¬ bI true = 0 by decide), show bd X (d + 2) 244 40 [(0, vr (some 137)), (1, vi (nI m)), (2, vi (nI k)), (4, vi (nI k)), (5, vl (0 : Int64))] [] (av_uI h 140 m (nI k)) = _ from L, ← te, b_244_70, gR_137_4 w1, pk_sub (by omega), tkT, if_pos z]
    by_cases u : 8 < tkE b N k - k
    · refine ⟨4, lN (hvL (rvL b k (min (tkE b N k - k) 8))), tkR_bad (by rw [wTok, if_pos u]), ?_⟩
      rw [if_pos (show (8 : Int32) < nI (tkE b N k - k) from nI_lt (a := 8) u (by omega)), st_139 w1 (by omega), gR_137_6 (w2 4), st_141 (w2 4) (by omega), nI_1]
    · refine ⟨1, lN (hvL (rvL b k (min (tkE b N k - k) 8))), ?_, ?_⟩
      · rw [show min (tkE b N k - k) 8 = tkE b N k - k by omega]
        exact tkR_word W (by omega) hl
      · rw [if_neg (show ¬ (8 : Int32) < nI (tkE b N k - k) from nI_nlt (a := 8) (by omega) (by omega)), st_139 w1 (by omega), gR_137_6 (w2 1), st_141 (w2 1) (by omega), nI_1]
  · rw [if_pos (show bI (lzB (b k)) = 0 by rw [Bool.not_eq_true] at z; rw [z]; rfl), s_dgt bk, av_cI_r, Option.bind_some]
    dsimp only
    by_cases x : dgB (b k) = true
    · have te : tkE b N k = rnE dgB b (N - k) k := by rw [tkE, if_neg z, if_pos x]
      have L := s_nlp (X := X) (d := d) G w1 C1 (k := k) (v1 := nI m) (N - k) k (by omega) (Nat.le_refl _)
      rw [Nat.sub_self] at L
      have hl : ∀ i, i < tkE b N k - k → 48 ≤ b (k + i) ∧ b (k + i) ≤ 57 := fun i hi => dgB_i (rnE_in (N - k) k (k + i) (by omega) (by rw [← te]; omega))
      rw [x, if_neg (show ¬ bI true = 0 by decide), show bd X (d + 2) 244 86 [(0, vr (some 137)), (1, vi (nI m)), (2, vi (nI k)), (4, vi (nI k)), (5, vl (0 : Int64))] [] (av_uI h 140 m (nI k)) = _ from L, ← te, b_244_117, gR_137_4 w1, pk_sub (by omega), tkT, if_neg z, if_pos x]
      by_cases u : 4 < tkE b N k - k
      · refine ⟨4, lN (nTv b k (min (tkE b N k - k) 4)), tkR_bad (by rw [nTok, if_pos u]), ?_⟩
        rw [if_pos (show (4 : Int32) < nI (tkE b N k - k) from nI_lt (a := 4) u (by omega)), st_139 w1 (by omega), gR_137_6 (w2 4), st_141 (w2 4) (by omega), nI_1]
      · have nt : nTok b k (tkE b N k - k) = nTv b k (tkE b N k - k) := by rw [nTok, if_neg u]
        have lt : nTv b k (tkE b N k - k) < 10000 := by
          rcases nTok_le hl with q | q
          · rw [nt] at q; exact q
          · have a := nTv_lt _ hl
            have h2 : 10 ^ (tkE b N k - k) ≤ 10 ^ 4 := Nat.pow_le_pow_right (by decide) (by omega)
            have h3 : 10 ^ 4 = 10000 := by decide
            omega
        refine ⟨2, lN (nTv b k (min (tkE b N k - k) 4)), ?_, ?_⟩
        · rw [show min (tkE b N k - k) 4 = tkE b N k - k by omega, nt]
          exact tkR_num lt (nI_l (by omega)).symm
        · rw [if_neg (show ¬ (4 : Int32) < nI (tkE b N k - k) from nI_nlt (a := 4) (by omega) (by omega)), st_139 w1 (by omega), gR_137_6 (w2 2), st_141 (w2 2) (by omega), nI_1]
    · have te : tkE b N k = k + 1 := by rw [tkE, if_neg z, if_neg x]
      rw [if_pos (show bI (dgB (b k)) = 0 by rw [Bool.not_eq_true] at x; rw [x]; rfl), gR_137_4 w1, s_sign bk, av_cI_r, Option.bind_some, tkT, if_neg z, if_neg x, te]
      dsimp only
      cases s : sgB (b k) with
      | false =>
        refine ⟨4, (nI (b k)).toInt64, tkR_bad (by rw [sTok, s]; rfl), ?_⟩
        rw [if_pos (show bI false = 0 from rfl), st_139 w1 (by omega), gR_137_6 (w2 4), st_141 (w2 4) (by omega), nI_1, nI_1]
      | true =>
        refine ⟨3, (nI (b k)).toInt64, by rw [sTok, if_pos s]; exact tkR_sign bk, ?_⟩
        rw [if_neg (show ¬ bI true = 0 by decide), st_139 w1 (by omega), gR_137_6 (w2 3), st_141 (w2 3) (by omega), nI_1, nI_1]
/-- all tokens -/
theorem s_cuts (G : gdT b N) : ∀ f k m (h : av_H), N - k ≤ f → k ≤ N → m ≤ k → WF h → tpR b N h → J_wd h → ∃ h', bd X (d + 2) 244 11 [(0, vr (some 137)), (1, vi (nI m)), (2, vi (nI k))] [] h = av_rV h' ∧ WF h' ∧ offT h h' ∧ h'.2.1 137 7 = 0 ∧ h'.2.1 137 8 = 0 ∧ (∀ q, q < m → h'.2.1 139 q = h.2.1 139 q ∧ h'.2.1 140 q = h.2.1 140 q ∧ h'.2.2.1 141 q = h.2.2.1 141 q) ∧ ∀ q, q ≤ (cuts b N f k).length → tkR (h.2.2.1 142) ((cuts b N f k).getD q (30001, N)).1 (h'.2.1 139 (m + q)) (h'.2.2.1 141 (m + q)) ∧ h'.2.1 140 (m + q) = nI ((cuts b N f k).getD q (30001, N)).2 := by
  have n1 := G.1
  have fin : ∀ k m (h : av_H), k = N → m ≤ N → WF h → tpR b N h → ∃ h', bd X (d + 2) 244 11 [(0, vr (some 137)), (1, vi (nI m)), (2, vi (nI k))] [] h = av_rV h' ∧ WF h' ∧ offT h h' ∧ h'.2.1 137 7 = 0 ∧ h'.2.1 137 8 = 0 ∧ (∀ q, q < m → h'.2.1 139 q = h.2.1 139 q ∧ h'.2.1 140 q = h.2.1 140 q ∧ h'.2.2.1 141 q = h.2.2.1 141 q) ∧ ∀ q, q ≤ 0 → tkR (h.2.2.1 142) (([] : List (Nat × Nat)).getD q (30001, N)).1 (h'.2.1 139 (m + q)) (h'.2.2.1 141 (m + q)) ∧ h'.2.1 140 (m + q) = nI (([] : List (Nat × Nat)).getD q (30001, N)).2 := fun k m h hk hm w C => by
    have w1 : WF (av_uI h 139 m 0) := WF_uI w
    have w2 : WF (av_uI (av_uI h 139 m 0) 140 m (nI N)) := WF_uI w1
    have w3 : WF (av_uI (av_uI (av_uI h 139 m 0) 140 m (nI N)) 137 7 0) := WF_uI w2
    refine ⟨av_uI (av_uI (av_uI (av_uI h 139 m 0) 140 m (nI N)) 137 7 0) 137 8 0, ?_, WF_uI w3, agr.uI rfl (agr.uI rfl (agr.uI rfl (agr.uI rfl agr.rfl))), ?_, uI_eq, fun q hq => ⟨?_, ?_, rfl⟩, fun q hq => ?_⟩
    · rw [b_244_11, gI_137_3 w, C.1, if_neg (nI_nlt (by omega) (by omega)), gR_137_4 w, st_139 w (by omega), gR_137_5 w1, gI_137_3 w1, uI_ne (by decide), C.1, st_140 w1 (by omega), pI_137 w2, pI_137 w3]
    · rw [uI_nk (by decide), uI_eq]
    · rw [uI_ne (by decide), uI_ne (by decide), uI_ne (by decide), uI_nk (by omega)]
    · rw [uI_ne (by decide), uI_ne (by decide), uI_nk (by omega), uI_ne (by decide)]
    · obtain rfl : q = 0 := by omega
      refine ⟨?_, ?_⟩
      · rw [uI_ne (by decide), uI_ne (by decide), uI_ne (by decide), Nat.add_zero, uI_eq]
        exact tkR_end
      · rw [uI_ne (by decide), uI_ne (by decide), Nat.add_zero, uI_eq]
        rfl
  intro f
  induction f with
  | zero =>
    intro k m h hf hk hm w C W
    exact fin k m h (by omega) (by omega) w C
  | succ f ih =>
    intro k m h hf hk hm w C W
    rw [cuts]
    by_cases z : k < N
    · have bk := G.2 k z
      rw [if_pos z]
      by_cases y : blB (b k) = true
      · obtain ⟨h', e1, r⟩ := ih (k + 1) m h (by omega) z (by omega) w C W
        rw [if_pos y]
        refine ⟨h', ?_, r⟩
        rw [← e1]
        conv => lhs; rw [b_244_11]
        rw [gI_137_3 w, C.1, if_pos (nI_lt z (by omega)), gR_137_1 w, ld_138 w (by omega), C.2 k z]
        by_cases x : b k = 10
        · rw [if_pos (show nI (b k) = 10 by rw [x]; rfl), nI_1]
        · have x2 : b k = 32 := by
            rw [blB, decide_eq_false x, Bool.false_or, decide_eq_true_eq] at y
            exact y
          rw [if_neg (show ¬ nI (b k) = 10 by rw [x2]; decide), if_pos (show nI (b k) = 32 by rw [x2]; rfl), nI_1]
      · obtain ⟨t1, t2⟩ := tkE_le (b := b) z
        obtain ⟨s, v, hs, e0⟩ := s_tok (X := X) (d := d) G z hm w C W y
        have wv : WF (av_uL (av_uI (av_uI h 140 m (nI k)) 139 m s) 141 m v) := WF_uL (WF_uI (WF_uI w))
        have Av : offT h (av_uL (av_uI (av_uI h 140 m (nI k)) 139 m s) 141 m v) := agr.uL rfl (agr.uI rfl (agr.uI rfl agr.rfl))
        have A2 : agr (FP false [142] []) h (av_uL (av_uI (av_uI h 140 m (nI k)) 139 m s) 141 m v) := off.fr Av (by decide)
        have e142 : (av_uL (av_uI (av_uI h 140 m (nI k)) 139 m s) 141 m v).2.2.1 142 = h.2.2.1 142 := by
          funext q
          exact A2.L rfl
        obtain ⟨h', e1, r1, r2, r3, r4, r5, r6⟩ := ih (tkE b N k) (m + 1) _ (by omega) t2 (by omega) wv (C.fr Av) (W.fr A2)
        rw [e142] at r6
        rw [if_neg y]
        refine ⟨h', e0.trans e1, r1, agr.tr Av r2, r3, r4, fun q hq => ?_, fun q hq => ?_⟩
        · obtain ⟨a1, a2, a3⟩ := r5 q (by omega)
          rw [uL_I, uI_nk (by omega), uI_ne (by decide)] at a1
          rw [uL_I, uI_ne (by decide), uI_nk (by omega)] at a2
          rw [uL_nk (by omega)] at a3
          exact ⟨a1, a2, a3⟩
        · rcases q with _ | q
          · obtain ⟨a1, a2, a3⟩ := r5 m (by omega)
            rw [uL_I, uI_eq] at a1
            rw [uL_I, uI_ne (by decide), uI_eq] at a2
            rw [uL_eq] at a3
            rw [Nat.add_zero, a1, a2, a3]
            exact ⟨hs, rfl⟩
          · have := r6 q (by rw [List.length_cons] at hq; omega)
            rw [show m + 1 + q = m + (q + 1) by omega] at this
            exact this
    · rw [if_neg z]
      exact fin k m h (by omega) (by omega) w C
end
