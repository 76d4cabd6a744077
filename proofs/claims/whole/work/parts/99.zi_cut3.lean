/-! the reader: the class cuts, all -/
def cN (a k : Nat) : Bool := !(a == 37 && k == 4)
theorem cN_T {a k : Nat} (h : cT a k = true) : cN a k = true := by
  unfold cT at h
  unfold cN
  simp only [Bool.not_eq_true', Bool.or_eq_false_iff, Bool.and_eq_false_iff, beq_eq_false_iff_ne] at h ⊢
  obtain ⟨⟨h1, h2⟩, h3⟩ := h
  rcases h1 with h1 | h1
  · exact Or.inl h1
  · exact Or.inr h1.1
theorem tpC.fN {b : Nat → Nat} {N : Nat} {h h' : av_H} (C : tpC b N h) (A : agr cN h h') : tpC b N h' := C.fr (agr.mono A (fun _ _ z => cN_T z))
def cnI (b : Nat → Nat) (k : Nat) : Nat → Int32
  | 0 => 0
  | m + 1 => cnI b k m * 10 + nI (b (k + m)) - 48
theorem cnI_eq {b : Nat → Nat} {k : Nat} : ∀ m, (∀ i, i < m → 48 ≤ b (k + i)) → cnI b k m = nI (nTv b k m)
  | 0, _ => rfl
  | m + 1, e => by
    have := e m (by omega)
    rw [cnI, nTv, cnI_eq m (fun i hi => e i (by omega)), show (10 : Int32) = nI 10 from rfl, pk_mul, nI_add, show (48 : Int32) = nI 48 from rfl, pk_sub (by omega)]
    exact congrArg nI (by omega)
section
variable {X : av_X} {d : Nat} {b : Nat → Nat} {N : Nat}
theorem c_wlp (G : gdT b N) {k : Nat} : ∀ r j (h : av_H), j + r = N → k ≤ j → WF h → tpC b N h → h.2.1 37 4 = nI j → (∀ i, k ≤ i → i < j → lzB (b i) = true) → ∃ h', bd X (d + 2) 74 5 [(0, vr (some 37)), (1, vi (nI k)), (2, vi (nI (j - k)))] [] h = av_rI (nI (wTok b k (rnE lzB b r j - k))) h' ∧ WF h' ∧ agr cN h h' ∧ h'.2.1 37 4 = nI (rnE lzB b r j) := by
  have n1 := G.1
  have fin : ∀ j (h : av_H), j ≤ N → k ≤ j → WF h → tpC b N h → h.2.1 37 4 = nI j → (∀ i, k ≤ i → i < j → lzB (b i) = true) → bd X (d + 2) 74 21 [(0, vr (some 37)), (1, vi (nI k))] [] h = av_rI (nI (wTok b k (j - k))) h := fun j h hj hk w C e4 hl => by
    refine c_word w C G (by omega) (fun i hi => lzB_i (hl (k + i) (by omega) (by omega))) ?_
    rw [e4, show k + (j - k) = j by omega]
  intro r
  induction r with
  | zero =>
    intro j h hj hk w C e4 hl
    refine ⟨h, ?_, w, agr.rfl, e4⟩
    rw [b_74_5]
    by_cases z : j - k < 1000
    · rw [if_pos (show nI (j - k) < 1000 from nI_lt (b := 1000) z (by omega)), is_37 w, show (97 : Int32) = nI 97 from rfl, show (122 : Int32) = nI 122 from rfl, c_nxt w C G (by omega) e4 (by omega) (by omega), av_cI_r, Option.bind_some]
      dsimp only
      rw [if_pos (dz (by omega))]
      exact fin j h (by omega) hk w C e4 hl
    · rw [if_neg (show ¬ nI (j - k) < 1000 from nI_nlt (b := 1000) (by omega) (by omega))]
      exact fin j h (by omega) hk w C e4 hl
  | succ r ih =>
    intro j h hj hk w C e4 hl
    rw [b_74_5, if_pos (show nI (j - k) < 1000 from nI_lt (b := 1000) (by omega) (by omega)), is_37 w, show (97 : Int32) = nI 97 from rfl, show (122 : Int32) = nI 122 from rfl, c_nxt w C G (by omega) e4 (by omega) (by omega), av_cI_r, Option.bind_some, rnE]
    dsimp only
    by_cases z : lzB (b j) = true
    · have zz := lzB_i z
      have w1 : WF (av_uI h 37 4 (nI (j + 1))) := WF_uI w
      have A1 : agr cN h (av_uI h 37 4 (nI (j + 1))) := agr.uI rfl agr.rfl
      obtain ⟨h', e1, w', A', e'⟩ := ih (j + 1) (av_uI h 37 4 (nI (j + 1))) (by omega) (by omega) w1 (C.fN A1) uI_eq (fun i h1 h2 => by
        by_cases y : i = j
        · rw [y]; exact z
        · exact hl i h1 (by omega))
      refine ⟨h', ?_, w', agr.tr A1 A', by rw [if_pos z]; exact e'⟩
      rw [if_neg (do' (by omega)), gI_37_4 w, e4, nI_1, pI_37 w, nI_1, if_pos z, ← e1, show j - k + 1 = j + 1 - k by omega]
    · refine ⟨h, ?_, w, agr.rfl, by rw [if_neg z]; exact e4⟩
      rw [if_pos (dz (fun q => z (decide_eq_true q.2))), if_neg z]
      exact fin j h (by omega) hk w C e4 hl
theorem c_nlp (G : gdT b N) {k : Nat} : ∀ r j (h : av_H), j + r = N → k ≤ j → WF h → tpC b N h → h.2.1 37 4 = nI j → (∀ i, k ≤ i → i < j → dgB (b i) = true) → ∃ h', bd X (d + 2) 76 7 [(0, vr (some 37)), (1, vi (nI k)), (2, vi (cnI b k (j - k))), (3, vi (nI (j - k)))] [] h = av_rI (nI (nTok b k (rnE dgB b r j - k))) h' ∧ WF h' ∧ agr cN h h' ∧ h'.2.1 37 4 = nI (rnE dgB b r j) := by
  have n1 := G.1
  have fin : ∀ j (h : av_H), j ≤ N → k ≤ j → WF h → h.2.1 37 4 = nI j → (∀ i, k ≤ i → i < j → dgB (b i) = true) → bd X (d + 2) 76 35 [(0, vr (some 37)), (1, vi (nI k)), (2, vi (cnI b k (j - k)))] [] h = av_rI (nI (nTok b k (j - k))) h := fun j h hj hk w e4 hl => by
    rw [b_76_35, gI_37_4 w, e4, pk_sub hk, nTok]
    by_cases z : 4 < j - k
    · rw [if_pos (show (4 : Int32) < nI (j - k) from nI_lt (a := 4) z (by omega)), if_pos z]
      rfl
    · rw [if_neg (show ¬ (4 : Int32) < nI (j - k) from nI_nlt (a := 4) (by omega) (by omega)), if_neg z, cnI_eq _ (fun i hi => (dgB_i (hl (k + i) (by omega) (by omega))).1)]
  intro r
  induction r with
  | zero =>
    intro j h hj hk w C e4 hl
    refine ⟨h, ?_, w, agr.rfl, e4⟩
    rw [b_76_7]
    by_cases z : j - k < 1000
    · rw [if_pos (show nI (j - k) < 1000 from nI_lt (b := 1000) z (by omega)), is_37 w, show (48 : Int32) = nI 48 from rfl, show (57 : Int32) = nI 57 from rfl, c_nxt w C G (by omega) e4 (by omega) (by omega), av_cI_r, Option.bind_some]
      dsimp only
      rw [if_pos (dz (by omega))]
      exact fin j h (by omega) hk w e4 hl
    · rw [if_neg (show ¬ nI (j - k) < 1000 from nI_nlt (b := 1000) (by omega) (by omega))]
      exact fin j h (by omega) hk w e4 hl
  | succ r ih =>
    intro j h hj hk w C e4 hl
    rw [b_76_7, if_pos (show nI (j - k) < 1000 from nI_lt (b := 1000) (by omega) (by omega)), is_37 w, show (48 : Int32) = nI 48 from rfl, show (57 : Int32) = nI 57 from rfl, c_nxt w C G (by omega) e4 (by omega) (by omega), av_cI_r, Option.bind_some, rnE]
    dsimp only
    by_cases z : dgB (b j) = true
    · have zz := dgB_i z
      have w1 : WF (av_uI h 37 4 (nI (j + 1))) := WF_uI w
      have A1 : agr cN h (av_uI h 37 4 (nI (j + 1))) := agr.uI rfl agr.rfl
      obtain ⟨h', e1, w', A', e'⟩ := ih (j + 1) (av_uI h 37 4 (nI (j + 1))) (by omega) (by omega) w1 (C.fN A1) uI_eq (fun i h1 h2 => by
        by_cases y : i = j
        · rw [y]; exact z
        · exact hl i h1 (by omega))
      refine ⟨h', ?_, w', agr.tr A1 A', by rw [if_pos z]; exact e'⟩
      have cs : cnI b k (j + 1 - k) = cnI b k (j - k) * 10 + nI (b j) - nI 48 := by
        rw [show j + 1 - k = (j - k) + 1 by omega, cnI, show k + (j - k) = j by omega]
        rfl
      rw [if_neg (do' (by omega)), gR_37_1 w, gI_37_4 w, e4, ld_38 w (by omega), C.2 j (by omega), gI_37_4 w, e4, nI_1, pI_37 w, nI_1, if_pos z, ← e1, cs, show j - k + 1 = j + 1 - k by omega]
    · refine ⟨h, ?_, w, agr.rfl, by rw [if_neg z]; exact e4⟩
      rw [if_pos (dz (fun q => z (decide_eq_true q.2))), if_neg z]
      exact fin j h (by omega) hk w e4 hl
/-- one token -/
theorem c_tok (G : gdT b N) {h : av_H} {k : Nat} (hk : k < N) (w : WF h) (C : tpC b N h) (e4 : h.2.1 37 4 = nI k) : ∃ h', ev X (d + 4) 72 [vr (some 37)] h = av_rI (nI (tkT b N k)) h' ∧ WF h' ∧ agr cN h h' ∧ h'.2.1 37 4 = nI (tkE b N k) := by
  have n1 := G.1
  have bk := G.2 k hk
  have z0 : (0 : Int32) = nI (k - k) := by rw [Nat.sub_self]; rfl
  rw [e_72, b_72_0, is_37 w, show (97 : Int32) = nI 97 from rfl, show (122 : Int32) = nI 122 from rfl, c_nxt w C G (by omega) e4 (by omega) (by omega), av_cI_r, Option.bind_some]
  dsimp only
  by_cases z : lzB (b k) = true
  · have zz := lzB_i z
    obtain ⟨h', e1, w', A', e'⟩ := c_wlp (X := X) (d := d) G (k := k) (N - k) k h (by omega) (Nat.le_refl _) w C e4 (fun i h1 h2 => by omega)
    have te : tkE b N k = rnE lzB b (N - k) k := by rw [tkE, if_pos z]
    refine ⟨h', ?_, w', A', by rw [te]; exact e'⟩
    rw [if_neg (do' (by omega)), is_37 w, e_74, b_74_0, gI_37_4 w, e4, z0, e1, av_cI_r, Option.bind_some, tkT, if_pos z, te]
  · rw [if_pos (dz (fun q => z (decide_eq_true q.2))), is_37 w, show (48 : Int32) = nI 48 from rfl, show (57 : Int32) = nI 57 from rfl, c_nxt w C G (by omega) e4 (by omega) (by omega), av_cI_r, Option.bind_some]
    dsimp only
    by_cases y : dgB (b k) = true
    · have yy := dgB_i y
      obtain ⟨h', e1, w', A', e'⟩ := c_nlp (X := X) (d := d) G (k := k) (N - k) k h (by omega) (Nat.le_refl _) w C e4 (fun i h1 h2 => by omega)
      have te : tkE b N k = rnE dgB b (N - k) k := by rw [tkE, if_neg z, if_pos y]
      refine ⟨h', ?_, w', A', by rw [te]; exact e'⟩
      rw [Nat.sub_self] at e1
      rw [if_neg (do' (by omega)), is_37 w, e_76, b_76_0, gI_37_4 w, e4, show bd X (d + 2) 76 7 [(0, vr (some 37)), (1, vi (nI k)), (2, vi (0 : Int32)), (3, vi (0 : Int32))] [] h = _ from e1, av_cI_r, Option.bind_some, tkT, if_neg z, if_pos y, te]
    · have te : tkE b N k = k + 1 := by rw [tkE, if_neg z, if_neg y]
      have w1 : WF (av_uI h 37 4 (nI (k + 1))) := WF_uI w
      have A1 : agr cN h (av_uI h 37 4 (nI (k + 1))) := agr.uI rfl agr.rfl
      refine ⟨av_uI h 37 4 (nI (k + 1)), ?_, w1, A1, by rw [te]; exact uI_eq⟩
      rw [if_pos (dz (fun q => y (decide_eq_true q.2))), gI_37_4 w, e4, if_pos (show nI k < 1000 from nI_lt (b := 1000) (by omega) (by omega)), gR_37_1 w, gI_37_4 w, e4, ld_38 w (by omega), C.2 k hk, b_72_27, gI_37_4 w, e4, nI_1, pI_37 w, e_ix 1000012 ((av_tx[2]?).getD []) rfl, av_cI_r, Option.bind_some, tkT, if_neg z, if_neg y, sTok]
      dsimp only
      have ix := sg_ix (b k) bk
      cases s : sgB (b k) with
      | false =>
        rw [if_pos (ix.mpr s), if_neg (by decide)]
        rfl
      | true =>
        rw [if_neg (fun q => by rw [ix.mp q] at s; cases s), if_pos rfl, show (20000 : Int32) = nI 20000 from rfl, nI_add]
/-- all tokens -/
theorem c_cuts (G : gdT b N) : ∀ f k i m (h : av_H), N - k ≤ f → k ≤ N → i ≤ k → m ≤ k → WF h → tpC b N h → h.2.1 37 4 = nI k → h.2.1 37 5 = nI m → ∃ h', bd X (d + 4) 71 8 [(0, vr (some 37)), (1, vi (nI i))] [] h = av_rV h' ∧ WF h' ∧ agr cT h h' ∧ h'.2.1 37 5 = nI (m + (cuts b N f k).length) ∧ (∀ q, q < m → h'.2.1 39 q = h.2.1 39 q ∧ h'.2.1 40 q = h.2.1 40 q) ∧ ∀ q, q ≤ (cuts b N f k).length → h'.2.1 39 (m + q) = nI ((cuts b N f k).getD q (30001, N)).1 ∧ h'.2.1 40 (m + q) = nI ((cuts b N f k).getD q (30001, N)).2 := by
  have n1 := G.1
  have fin : ∀ m (h : av_H), m ≤ N → WF h → tpC b N h → h.2.1 37 5 = nI m → ∃ h', bd X (d + 4) 71 63 [(0, vr (some 37))] [] h = av_rV h' ∧ WF h' ∧ agr cT h h' ∧ h'.2.1 37 5 = nI (m + 0) ∧ (∀ q, q < m → h'.2.1 39 q = h.2.1 39 q ∧ h'.2.1 40 q = h.2.1 40 q) ∧ ∀ q, q ≤ 0 → h'.2.1 39 (m + q) = nI (([] : List (Nat × Nat)).getD q (30001, N)).1 ∧ h'.2.1 40 (m + q) = nI (([] : List (Nat × Nat)).getD q (30001, N)).2 := fun m h hm w C e5 => by
    have w1 : WF (av_uI h 40 m (nI N)) := WF_uI w
    refine ⟨av_uI (av_uI h 40 m (nI N)) 39 m 30001, ?_, WF_uI w1, agr.uI rfl (agr.uI rfl agr.rfl), ?_, fun q hq => ⟨?_, ?_⟩, fun q hq => ?_⟩
    · rw [b_71_63, gR_37_3 w, gI_37_5 w, e5, gI_37_0 w, C.1, st_40 w (by omega), gR_37_2 w1, gI_37_5 w1, uI_ne (by decide), e5, st_39 w1 (by omega)]
    · rw [uI_ne (by decide), uI_ne (by decide)]; exact e5
    · rw [uI_nk (by omega), uI_ne (by decide)]
    · rw [uI_ne (by decide), uI_nk (by omega)]
    · obtain rfl : q = 0 := by omega
      exact ⟨uI_eq, by rw [uI_ne (by decide)]; exact uI_eq⟩
  intro f
  induction f with
  | zero =>
    intro k i m h hf hk hi hm w C e4 e5
    have kN : k = N := by omega
    obtain ⟨h', e1, r⟩ := fin m h (by omega) w C e5
    refine ⟨h', ?_, r⟩
    rw [b_71_8]
    by_cases z : i < 1000
    · rw [if_pos (show nI i < 1000 from nI_lt (b := 1000) z (by omega)), gI_37_4 w, e4, gI_37_0 w, C.1, if_neg (nI_nlt (by omega) (by omega))]
      exact e1
    · rw [if_neg (show ¬ nI i < 1000 from nI_nlt (b := 1000) (by omega) (by omega))]
      exact e1
  | succ f ih =>
    intro k i m h hf hk hi hm w C e4 e5
    rw [cuts]
    by_cases z : k < N
    · have bk := G.2 k z
      rw [if_pos z, b_71_8, if_pos (show nI i < 1000 from nI_lt (b := 1000) (by omega) (by omega)), gI_37_4 w, e4, gI_37_0 w, C.1, if_pos (nI_lt z (by omega)), gR_37_1 w, gI_37_4 w, e4, ld_38 w (by omega), C.2 k z]
      have w1 : WF (av_uI h 37 4 (nI (k + 1))) := WF_uI w
      have A1 : agr cT h (av_uI h 37 4 (nI (k + 1))) := agr.uI rfl agr.rfl
      by_cases y : blB (b k) = true
      · obtain ⟨h', e1, r1, r2, r3, r4, r5⟩ := ih (k + 1) (i + 1) m (av_uI h 37 4 (nI (k + 1))) (by omega) z (by omega) (by omega) w1 (C.fr A1) uI_eq (by rw [uI_nk (by decide)]; exact e5)
        rw [if_pos y]
        refine ⟨h', ?_, r1, agr.tr A1 r2, r3, fun q hq => ?_, r5⟩
        · rw [← e1, ← nI_1 i]
          by_cases x : b k = 10
          · rw [if_pos (show nI (b k) = 10 by rw [x]; rfl), gI_37_4 w, e4, nI_1, pI_37 w]
          · have x2 : b k = 32 := by
              rw [blB, decide_eq_false x, Bool.false_or, decide_eq_true_eq] at y
              exact y
            rw [if_neg (show ¬ nI (b k) = 10 by rw [x2]; decide), gR_37_1 w, gI_37_4 w, e4, ld_38 w (by omega), C.2 k z, if_pos (show nI (b k) = 32 by rw [x2]; rfl), gI_37_4 w, e4, nI_1, pI_37 w]
        · obtain ⟨a1, a2⟩ := r4 q hq
          rw [uI_ne (by decide)] at a1 a2
          exact ⟨a1, a2⟩
      · have x1 : b k ≠ 10 := fun q => y (by rw [blB, decide_eq_true q, Bool.true_or])
        have x2 : b k ≠ 32 := fun q => y (by rw [blB, decide_eq_true q, Bool.or_true])
        obtain ⟨t1, t2⟩ := tkE_le (b := b) z
        have wp : WF (av_uI h 40 m (nI k)) := WF_uI w
        have Ap : agr cT h (av_uI h 40 m (nI k)) := agr.uI rfl agr.rfl
        obtain ⟨h2, e2, w2, A2, e2'⟩ := c_tok (X := X) (d := d) G z wp (C.fr Ap) (by rw [uI_ne (by decide)]; exact e4)
        have A2' : agr cT h h2 := agr.tr Ap (agr.mono A2 (fun _ _ z => cN_T z))
        have w3 : WF (av_uI h2 39 m (nI (tkT b N k))) := WF_uI w2
        have w4 : WF (av_uI (av_uI h2 39 m (nI (tkT b N k))) 37 5 (nI (m + 1))) := WF_uI w3
        have A4 : agr cT h (av_uI (av_uI h2 39 m (nI (tkT b N k))) 37 5 (nI (m + 1))) := agr.uI rfl (agr.uI rfl A2')
        have h25 : h2.2.1 37 5 = nI m := by
          rw [A2.I rfl, uI_ne (by decide)]; exact e5
        obtain ⟨h', e1, r1, r2, r3, r4, r5⟩ := ih (tkE b N k) (i + 1) (m + 1) (av_uI (av_uI h2 39 m (nI (tkT b N k))) 37 5 (nI (m + 1))) (by omega) t2 (by omega) (by omega) w4 (C.fr A4) (by rw [uI_nk (by decide), uI_ne (by decide)]; exact e2') uI_eq
        rw [if_neg y]
        refine ⟨h', ?_, r1, agr.tr A4 r2, ?_, fun q hq => ?_, fun q hq => ?_⟩
        · rw [if_neg (show ¬ nI (b k) = 10 from fun q => x1 ((nI_eq (b := 10) (by omega) (by omega)).mp q)), gR_37_1 w, gI_37_4 w, e4, ld_38 w (by omega), C.2 k z, if_neg (show ¬ nI (b k) = 32 from fun q => x2 ((nI_eq (b := 32) (by omega) (by omega)).mp q)), gI_37_5 w, e5, if_pos (show nI m < 1000 from nI_lt (b := 1000) (by omega) (by omega)), gR_37_3 w, gI_37_5 w, e5, gI_37_4 w, e4, st_40 w (by omega), gR_37_2 wp, gI_37_5 wp, uI_ne (by decide), e5, is_37 wp, e2, av_cI_r, Option.bind_some, st_39 w2 (by omega), gI_37_5 w3, uI_ne (by decide), h25, nI_1, pI_37 w3, nI_1]
          exact e1
        · rw [r3, List.length_cons, show m + 1 + (cuts b N f (tkE b N k)).length = m + ((cuts b N f (tkE b N k)).length + 1) by omega]
        · obtain ⟨a1, a2⟩ := r4 q (by omega)
          rw [uI_ne (by decide), uI_nk (by omega), A2.I rfl, uI_ne (by decide)] at a1
          rw [uI_ne (by decide), uI_ne (by decide), A2.I rfl, uI_nk (by omega)] at a2
          exact ⟨a1, a2⟩
        · rcases q with _ | q
          · obtain ⟨a1, a2⟩ := r4 m (by omega)
            rw [uI_ne (by decide), uI_eq] at a1
            rw [uI_ne (by decide), uI_ne (by decide), A2.I rfl, uI_eq] at a2
            exact ⟨a1, a2⟩
          · have := r5 q (by rw [List.length_cons] at hq; omega)
            rw [show m + 1 + q = m + (q + 1) by omega] at this
            exact this
    · rw [if_neg z]
      obtain ⟨h', e1, r⟩ := fin m h (by omega) w C e5
      refine ⟨h', ?_, r⟩
      rw [b_71_8]
      by_cases z2 : i < 1000
      · rw [if_pos (show nI i < 1000 from nI_lt (b := 1000) z2 (by omega)), gI_37_4 w, e4, gI_37_0 w, C.1, if_neg (nI_nlt (by omega) (by omega))]
        exact e1
      · rw [if_neg (show ¬ nI i < 1000 from nI_nlt (b := 1000) (by omega) (by omega))]
        exact e1
end
