/-! a row of drops tried: the pieces -/
theorem SR.fr {h0 hr g : av_H} {m : Nat} {D : Nat → Nat → Nat} {M N V : Nat → Nat} (S : SR h0 hr m D M N V) (w : WF g) (A : agr (FP false (RB ++ [146, 150] ++ rCells) (RF ++ [(137, 45)])) hr g) : SR h0 g m D M N V :=
  ⟨w, agr.tr S.2.1 (A.sub (by decide +kernel)), S.2.2.1.fr (A.sub (by decide +kernel)), S.2.2.2.1.fr (A.sub (by decide +kernel)), fun t ht => (A.I rfl).trans (S.2.2.2.2 t ht)⟩
def mkW (f : Nat → Int32) (D : Nat → Nat) (N : Nat) : Nat → Nat → Int32
  | 0 => f
  | k + 1 => if N.testBit k = true then upd (mkW f D N k) (pix D k) 1 else mkW f D N k
theorem mkW_v {f : Nat → Int32} {D : Nat → Nat} {N j : Nat} : ∀ K, mkW f D N K j = if anyN K 0 (fun k => N.testBit k && decide (j = pix D k)) = true then 1 else f j
  | 0 => by rw [mkW, anyN, if_neg (by decide)]
  | K + 1 => by
    rw [mkW, anyN_snoc, Nat.zero_add]
    by_cases q : N.testBit K = true
    · rw [if_pos q, q, Bool.true_and]
      by_cases z : j = pix D K
      · rw [decide_eq_true z, Bool.or_true, if_pos rfl, ← z, pk_us]
      · rw [decide_eq_false z, Bool.or_false, pk_un z, mkW_v K]
    · have q' : N.testBit K = false := by simpa using q
      rw [if_neg q, mkW_v K, q', Bool.false_and, Bool.or_false]
theorem lN_mod (b : Nat) : lN (b % 2 ^ 64) = lN b := by
  apply Int64.toBitVec_inj.mp
  show BitVec.ofNat 64 (b % 2 ^ 64) = BitVec.ofNat 64 b
  apply BitVec.eq_of_toNat_eq
  simp
section
variable {X : av_X} {d : Nat} {h : av_H}
theorem tp_lp (w : WF h) {i N : Nat} {D : Nat → Nat} (hi : i < 60) (e0 : h.2.1 168 i = nI (D 0)) (e1 : h.2.1 169 i = nI (D 1)) (e2 : h.2.1 170 i = nI (D 2)) (eN : h.2.2.1 185 i = lN N) (t6 : D 0 < 6) (s4 : D 1 < 4) (hN : N < 2 ^ 48) (nb : ∀ c, c < 4 → ∀ f, f < 12 → N.testBit (4 * f + c) = true → D 2 + c < 10) : ∀ n k, k + n = 48 → bd X (d + 1) 368 2 [(0, vr (some 137)), (1, vi (nI i)), (2, vi (nI k))] [] (setC h 218 (mkW (h.2.1 218) D N k)) = av_rV (setC h 218 (mkW (h.2.1 218) D N 48))
  | 0, k, hk => by
    obtain rfl : k = 48 := by omega
    rw [b_368_2, if_neg (by decide)]
  | n + 1, k, hk => by
    have w' : WF (setC h 218 (mkW (h.2.1 218) D N k)) := w
    have ih := tp_lp w hi e0 e1 e2 eN t6 s4 hN nb n (k + 1) (by omega)
    rw [b_368_2, if_pos (show nI k < (48 : Int32) from nI_lt (b := 48) (by omega) (by omega)), gR_137_63 w', ld_185 w' hi, show (setC h 218 (mkW (h.2.1 218) D N k)).2.2.1 185 i = lN N from eN, nI_1]
    simp only [bitL (show N < 2 ^ 62 by omega) (show k < 64 by omega)]
    by_cases q : N.testBit k = true
    · have q' := q
      rw [show k = 4 * (k / 4) + k % 4 by omega] at q'
      have xc := nb (k % 4) (by omega) (k / 4) (by omega) q'
      rw [mkW, if_pos q] at ih
      rw [if_pos q, gR_137_102 w', gR_137_46 w', ld_168 w' hi, setC_ne (by decide), e0, gR_137_47 w', ld_169 w' hi, setC_ne (by decide), e1, if_neg (by decide), gR_137_48 w', ld_170 w' hi, setC_ne (by decide), e2, if_neg (by decide), show (4 : Int32) = nI 4 from rfl, pk_div (by omega) (by omega) (by omega), pk_mul, pk_sub (by omega), nI_add, show k - k / 4 * 4 = k % 4 by omega, s_paneOf', st_218 w' (by omega), setC_u]
      exact ih
    · rw [mkW, if_neg q] at ih
      rw [if_neg q]
      exact ih
theorem s_tp (w : WF h) {i N : Nat} {D : Nat → Nat} (hi : i < 60) (e0 : h.2.1 168 i = nI (D 0)) (e1 : h.2.1 169 i = nI (D 1)) (e2 : h.2.1 170 i = nI (D 2)) (eN : h.2.2.1 185 i = lN N) (t6 : D 0 < 6) (s4 : D 1 < 4) (hN : N < 2 ^ 48) (nb : ∀ c, c < 4 → ∀ f, f < 12 → N.testBit (4 * f + c) = true → D 2 + c < 10) : ev X (d + 2) 368 [vr (some 137), vi (nI i)] h = av_rV (setC h 218 (mkW (h.2.1 218) D N 48)) := by
  have lp := tp_lp (X := X) (d := d) w hi e0 e1 e2 eN t6 s4 hN nb 48 0 (by omega)
  rw [mkW, setC_id] at lp
  rw [e_368, b_368_0]
  exact lp
/-! the reference puts by what it changes, and puts it back -/
theorem t_w (w : WF h) {v1 : Int32} : ∀ n i, i + n = 6 → bd X (d + 1) 369 5 [(0, vr (some 137)), (1, vi v1), (2, vi (nI i))] [] (setC h 216 (cpF (h.2.1 216) 0 (h.2.1 150) i)) = bd X (d + 1) 369 20 [(0, vr (some 137)), (1, vi v1), (2, vi 0)] [] (setC h 216 (cpF (h.2.1 216) 0 (h.2.1 150) 6))
  | 0, i, hi => by
    obtain rfl : i = 6 := by omega
    rw [b_369_5, if_neg (show ¬ nI 6 < 6 by decide)]
  | n + 1, i, hi => by
    have ih := t_w w (v1 := v1) n (i + 1) (by omega)
    have w' : WF (setC h 216 (cpF (h.2.1 216) 0 (h.2.1 150) i)) := w
    rw [← cpF_s, Nat.zero_add] at ih
    rw [b_369_5, if_pos (show nI i < 6 from nI_lt (b := 6) (by omega) (by omega)), gR_137_100 w', gR_137_17 w', ld_150 w' (by omega), setC_ne (by decide), st_216 w' (by omega), setC_u, nI_1]
    exact ih
theorem t_p {v1 : Int32} {h0 : av_H} : ∀ n i h, i + n = 2880 → WF h → off false [217, 218] [] h0 h → (∀ j, j < i → h.2.1 217 j = h0.2.1 146 j) → (∀ j, j < i → h.2.1 218 j = 0) → ∃ h', WF h' ∧ off false [217, 218] [] h0 h' ∧ (∀ j, j < 2880 → h'.2.1 217 j = h0.2.1 146 j) ∧ (∀ j, j < 2880 → h'.2.1 218 j = 0) ∧ bd X (d + 1) 369 20 [(0, vr (some 137)), (1, vi v1), (2, vi (nI i))] [] h = bd X (d + 1) 369 60 [(0, vr (some 137)), (1, vi v1), (2, vi 0)] [] (av_uL (av_uL (av_uL (av_uL h' 219 0 (-1)) 219 1 (-1)) 219 2 0) 219 3 0)
  | 0, i, h, hi, w, O, H1, H2 => by
    obtain rfl : i = 2880 := by omega
    have w1 : WF (av_uL h 219 0 (-1)) := w
    have w2 : WF (av_uL (av_uL h 219 0 (-1)) 219 1 (-1)) := w
    have w3 : WF (av_uL (av_uL (av_uL h 219 0 (-1)) 219 1 (-1)) 219 2 0) := w
    refine ⟨h, w, O, H1, H2, ?_⟩
    rw [b_369_20, if_neg (show ¬ nI 2880 < 2880 by decide), gR_137_103 w, show (0 : Int32) = nI 0 from rfl, st_219 w (show 0 < 5 by decide), gR_137_103 w1, show (1 : Int32) = nI 1 from rfl, st_219 w1 (show 1 < 5 by decide), gR_137_103 w2, show (2 : Int32) = nI 2 from rfl, st_219 w2 (show 2 < 5 by decide), gR_137_103 w3, show (3 : Int32) = nI 3 from rfl, st_219 w3 (show 3 < 5 by decide)]
  | n + 1, i, h, hi, w, O, H1, H2 => by
    have w1 : WF (av_uI h 217 i (h0.2.1 146 i)) := w
    have e146 : h.2.1 146 i = h0.2.1 146 i := (O.fr (q := false) (cs := [146]) (fs := []) (by decide)).I rfl
    obtain ⟨h', w', O', P1, P2, e'⟩ := t_p (v1 := v1) (h0 := h0) n (i + 1) (av_uI (av_uI h 217 i (h0.2.1 146 i)) 218 i 0) (by omega) w (agr.uI rfl (agr.uI rfl O)) (fun j hj => by
      rw [uI_ne (by decide)]
      by_cases z : j = i
      · rw [z, uI_eq]
      · rw [uI_nk z]
        exact H1 j (by omega)) (fun j hj => by
      by_cases z : j = i
      · rw [z, uI_eq]
      · rw [uI_nk z, uI_ne (by decide)]
        exact H2 j (by omega))
    refine ⟨h', w', O', P1, P2, ?_⟩
    rw [b_369_20, if_pos (show nI i < 2880 from nI_lt (b := 2880) (by omega) (by omega)), gR_137_101 w, gR_137_13 w, ld_146 w (by omega), e146, st_217 w (by omega), gR_137_102 w1, st_218 w1 (by omega), nI_1]
    exact e'
theorem t_b {v1 : Int32} {h0 : av_H} {A : Nat → Bool} (HA : ∀ j, j < 2880 → h0.2.1 218 j = bI (A j)) : ∀ n i h, i + n = 2880 → WF h → off false [146] [(219, 4)] h0 h → (∀ j, j < i → h.2.1 146 j = h0.2.1 217 j) → h.2.2.1 219 4 = lN (fb_ct A i) → ∃ h', WF h' ∧ off false [146] [(219, 4)] h0 h' ∧ (∀ j, j < 2880 → h'.2.1 146 j = h0.2.1 217 j) ∧ h'.2.2.1 219 4 = lN (fb_ct A 2880) ∧ bd X (d + 1) 369 212 [(0, vr (some 137)), (1, vi v1), (2, vi (nI i))] [] h = bd X (d + 1) 369 242 [(0, vr (some 137)), (1, vi v1), (2, vi 0)] [] h'
  | 0, i, h, hi, w, O, H1, H2 => by
    obtain rfl : i = 2880 := by omega
    refine ⟨h, w, O, H1, H2, ?_⟩
    rw [b_369_212, if_neg (show ¬ nI 2880 < 2880 by decide)]
  | n + 1, i, h, hi, w, O, H1, H2 => by
    have w1 : WF (av_uI h 146 i (h0.2.1 217 i)) := w
    have A1 := O.fr (q := false) (cs := [217, 218]) (fs := []) (by decide)
    have e217 : h.2.1 217 i = h0.2.1 217 i := A1.I rfl
    have e218 : (av_uI h 146 i (h0.2.1 217 i)).2.1 218 i = bI (A i) := by rw [uI_ne (by decide), A1.I rfl]; exact HA i (by omega)
    have e219 : (av_uI h 146 i (h0.2.1 217 i)).2.2.1 219 4 = lN (fb_ct A i) := H2
    obtain ⟨h', w', O', P1, P2, e'⟩ := t_b (v1 := v1) (h0 := h0) HA n (i + 1) (av_uL (av_uI h 146 i (h0.2.1 217 i)) 219 4 (lN (fb_ct A (i + 1)))) (by omega) w (agr.uL rfl (agr.uI rfl O)) (fun j hj => by
      rw [uL_I]
      by_cases z : j = i
      · rw [z, uI_eq]
      · rw [uI_nk z]
        exact H1 j (by omega)) uL_eq
    refine ⟨h', w', O', P1, P2, ?_⟩
    rw [fb_ct_succ] at e'
    rw [b_369_212, if_pos (show nI i < 2880 from nI_lt (b := 2880) (by omega) (by omega)), gR_137_13 w, gR_137_101 w, ld_217 w (by omega), e217, st_146 w (by omega), gR_137_103 w1, show (4 : Int32) = nI 4 from rfl, ld_219 w1 (show 4 < 5 by decide), e219, gR_137_102 w1, ld_218 w1 (by omega), e218, nI_1, st_219 w1 (show 4 < 5 by decide), st_219 w1 (show 4 < 5 by decide)]
    cases z : A i with
    | false =>
      rw [z, if_neg (by decide), Nat.add_zero] at e'
      rw [if_pos (show bI false = 0 from rfl), show (0 : Int64) = lN 0 from rfl, lN_add, Nat.add_zero]
      exact e'
    | true =>
      rw [z, if_pos rfl] at e'
      rw [if_neg (show ¬ bI true = 0 by decide), show (1 : Int64) = lN 1 from rfl, lN_add]
      exact e'
theorem t_v (w : WF h) {v1 : Int32} : ∀ n i, i + n = 6 → bd X (d + 1) 369 242 [(0, vr (some 137)), (1, vi v1), (2, vi (nI i))] [] (setC h 150 (cpF (h.2.1 150) 0 (h.2.1 216) i)) = av_rV (av_uI (setC h 150 (cpF (h.2.1 150) 0 (h.2.1 216) 6)) 137 45 v1)
  | 0, i, hi => by
    obtain rfl : i = 6 := by omega
    have w' : WF (setC h 150 (cpF (h.2.1 150) 0 (h.2.1 216) 6)) := w
    rw [b_369_242, if_neg (show ¬ nI 6 < 6 by decide), pI_137 w']
  | n + 1, i, hi => by
    have ih := t_v w (v1 := v1) n (i + 1) (by omega)
    have w' : WF (setC h 150 (cpF (h.2.1 150) 0 (h.2.1 216) i)) := w
    rw [← cpF_s, Nat.zero_add] at ih
    rw [b_369_242, if_pos (show nI i < 6 from nI_lt (b := 6) (by omega) (by omega)), gR_137_17 w', gR_137_100 w', ld_216 w' (by omega), setC_ne (by decide), st_150 w' (by omega), setC_u, nI_1]
    exact ih
/-! the class's answers -/
theorem nw_lp (w : WF h) {m m0 n : Nat} {D : Nat → Nat → Nat} {M N : Nat → Nat} (B : DB m D M N) (C : DC h m D M) (hn : m0 + n < m) : ∀ k j L, j + k = n → L < 2 ^ 48 → (∀ c, c < 4 → ∀ f, f < 12 → L.testBit (12 * c + f) = ((M (m0 + n)).testBit (12 * c + f) && !anyN j m0 (fun j => rch (D j) (M j) (D (m0 + n) 0) (D (m0 + n) 1) f (D (m0 + n) 2 + c)))) → ∃ L', L' < 2 ^ 48 ∧ (∀ c, c < 4 → ∀ f, f < 12 → L'.testBit (12 * c + f) = nwB D M m0 n c f) ∧ bd X (d + 2) 234 8 [(0, vr (some 0)), (1, vi (nI (m0 + n))), (3, vl (lN L)), (5, vi (nI (m0 + j)))] [] h = av_rI (nI (bct L')) h
  | 0, j, L, hj, hL, bL => by
    obtain rfl : j = n := by omega
    have h60 := B.1
    refine ⟨L, hL, bL, ?_⟩
    rw [b_234_8, if_neg (nI_nlt (by omega) (by omega)), c_bc64' (by omega)]
  | k + 1, j, L, hj, hL, bL => by
    have h60 := B.1
    obtain ⟨b0, b1, b2, -⟩ := B.2.1 (m0 + n) hn
    obtain ⟨c0, c1, c2, -⟩ := B.2.1 (m0 + j) (by omega)
    have cM : M (m0 + j) < 2 ^ 48 := (B.2.1 (m0 + j) (by omega)).2.2.2.2.2.2.2.2.2.2.2.2.2.2.2.2.2.2.2.2.1
    have P := C.2 (m0 + n) hn
    obtain ⟨S, hS, eS⟩ := c_seen (X := X) (d := d) w (show m0 + j < 60 by omega) (show m0 + n < 60 by omega) (C.2 (m0 + j) (by omega)) c0 c1 c2 cM b0 b1 b2 (P.1 0 (by decide)) (P.1 1 (by decide)) (P.1 2 (by decide))
    have lt : nd L (S % 2 ^ 64) < 2 ^ 48 := nd_lt hL
    obtain ⟨L', hL', bL', e'⟩ := nw_lp w B C hn k (j + 1) (nd L (S % 2 ^ 64)) (by omega) lt (fun c hc f hf => by
      rw [nd_bit, bL c hc f hf, anyN_snoc, Nat.testBit_mod_two_pow, decide_eq_true (show 12 * c + f < 64 by omega), Bool.true_and, hS c hc f hf]
      cases (M (m0 + n)).testBit (12 * c + f) <;> cases anyN j m0 (fun j => rch (D j) (M j) (D (m0 + n) 0) (D (m0 + n) 1) f (D (m0 + n) 2 + c)) <;> simp)
    refine ⟨L', hL', bL', ?_⟩
    rw [b_234_8, if_pos (nI_lt (by omega) (by omega)), gR_0_13 w, dr_l w (by omega), gR_0_13 w, dr_l w (by omega), dr_is w (by omega), eS, av_cL_r, Option.bind_some, ← lN_mod S, andnL (by omega) (Nat.mod_lt _ (by decide)), nI_1]
    exact e'
theorem c_newly (w : WF h) {m m0 n : Nat} {D : Nat → Nat → Nat} {M N : Nat → Nat} (B : DB m D M N) (C : DC h m D M) (hn : m0 + n < m) : ∃ L, L < 2 ^ 48 ∧ (∀ c, c < 4 → ∀ f, f < 12 → L.testBit (12 * c + f) = nwB D M m0 n c f) ∧ ev X (d + 3) 234 [vr (some 0), vi (nI (m0 + n)), vi (nI m0)] h = av_rI (nI (bct L)) h := by
  have h60 := B.1
  have cM : M (m0 + n) < 2 ^ 48 := (B.2.1 (m0 + n) hn).2.2.2.2.2.2.2.2.2.2.2.2.2.2.2.2.2.2.2.2.1
  obtain ⟨L, h1, h2, h3⟩ := nw_lp (X := X) (d := d) w B C hn n 0 (M (m0 + n)) (by omega) cM (fun c hc f hf => by rw [anyN, Bool.not_false, Bool.and_true])
  refine ⟨L, h1, h2, ?_⟩
  rw [e_234, b_234_0, gR_0_13 w, dr_l w (by omega), dr_L w (by omega) (C.2 (m0 + n) hn).2]
  exact h3
/-- one number of each drop, summed -/
theorem ta_s (w : WF h) {m m0 q j : Nat} {D : Nat → Nat → Nat} {M N : Nat → Nat} (B : DB m D M N) (C : DC h m D M) (hq : (q = 2 ∧ j = 16) ∨ (q = 3 ∧ j = 6)) : ∀ k n, m0 + n + k = m → bd X (d + 3) 233 26 [(0, vr (some 0)), (1, vi (nI q)), (2, vi (nI m0)), (4, vl (sL (fun i => (nI (D i j)).toInt64) m0 n)), (6, vi (nI (m0 + n)))] [] h = av_rL (sL (fun i => (nI (D i j)).toInt64) m0 (m - m0)) h
  | 0, n, hn => by
    have h60 := B.1
    rw [b_233_26, gIv_0_17 w C.1, if_neg (nI_nlt (by omega) (by omega)), show n = m - m0 by omega]
  | k + 1, n, hn => by
    have h60 := B.1
    have ih := ta_s w (m0 := m0) B C hq k (n + 1) (by omega)
    rw [sL] at ih
    have P := C.2 (m0 + n) (by omega)
    rcases hq with ⟨rfl, rfl⟩ | ⟨rfl, rfl⟩
    · rw [b_233_26, gIv_0_17 w C.1, if_pos (nI_lt (by omega) (by omega)), if_pos (show nI 2 = 2 from rfl), gR_0_13 w, dr_l w (by omega), dr_g w (by omega) P.1 (by decide), nI_1]
      exact ih
    · rw [b_233_26, gIv_0_17 w C.1, if_pos (nI_lt (by omega) (by omega)), if_neg (show ¬ nI 3 = 2 by decide), if_pos (show nI 3 = 3 from rfl), gR_0_13 w, dr_l w (by omega), dr_g w (by omega) P.1 (by decide), nI_1]
      exact ih
theorem ta_p (w : WF h) {m m0 : Nat} {D : Nat → Nat → Nat} {M N : Nat → Nat} (B : DB m D M N) (C : DC h m D M) : ∀ k n, m0 + n + k = m → bd X (d + 3) 233 26 [(0, vr (some 0)), (1, vi (nI 4)), (2, vi (nI m0)), (4, vl (lN (fb_ct (mkP D N m0 n) 2880))), (6, vi (nI (m0 + n)))] [] h = av_rL (lN (fb_ct (mkP D N m0 (m - m0)) 2880)) h
  | 0, n, hn => by
    have h60 := B.1
    rw [b_233_26, gIv_0_17 w C.1, if_neg (nI_nlt (by omega) (by omega)), show n = m - m0 by omega]
  | k + 1, n, hn => by
    have h60 := B.1
    have ih := ta_p w (m0 := m0) B C k (n + 1) (by omega)
    obtain ⟨L, l1, l2, l3⟩ := c_newly (X := X) (d := d) w (m0 := m0) (n := n) B C (by omega)
    have bl : bct L ≤ 64 := fb_ct_le _ _
    rw [nw_cnt B (by omega) l1 l2] at ih
    rw [b_233_26, gIv_0_17 w C.1, if_pos (nI_lt (by omega) (by omega)), if_neg (show ¬ nI 4 = 2 by decide), if_neg (show ¬ nI 4 = 3 by decide), is_0 w, l3, av_cI_r, Option.bind_some, nI_l (by omega), lN_add, nI_1]
    exact ih
/-- what the row was worth, by the class -/
def trA (q : Nat) (f : Int32) (m0 m : Nat) (D : Nat → Nat → Nat) (N : Nat → Nat) : Int64 := match q with
  | 0 => if f = 0 then -1 else (nI (m - m0)).toInt64
  | 1 => if f = 0 then -1 else f.toInt64
  | 2 => sL (fun i => (nI (D i 16)).toInt64) m0 (m - m0)
  | 3 => sL (fun i => (nI (D i 6)).toInt64) m0 (m - m0)
  | _ => lN (fb_ct (mkP D N m0 (m - m0)) 2880)
theorem c_trA (w : WF h) {m m0 q : Nat} {f : Int32} {D : Nat → Nat → Nat} {M N : Nat → Nat} (B : DB m D M N) (C : DC h m D M) (hm : m0 ≤ m) (q5 : q < 5) : ev X (d + 4) 233 [vr (some 0), vi (nI q), vi (nI m0), vi f] h = av_rL (trA q f m0 m D N) h := by
  have h60 := B.1
  match q, q5 with
  | 0, _ =>
    rw [e_233, b_233_0, if_pos (show nI 0 = 0 from rfl), gIv_0_17 w C.1, trA, pk_sub hm]
    split <;> rfl
  | 1, _ =>
    rw [e_233, b_233_0, if_neg (show ¬ nI 1 = 0 by decide), if_pos (show nI 1 = 1 from rfl), trA]
    split <;> rfl
  | 2, _ =>
    rw [e_233, b_233_0, if_neg (show ¬ nI 2 = 0 by decide), if_neg (show ¬ nI 2 = 1 by decide)]
    exact ta_s w B C (Or.inl ⟨rfl, rfl⟩) (m - m0) 0 (by omega)
  | 3, _ =>
    rw [e_233, b_233_0, if_neg (show ¬ nI 3 = 0 by decide), if_neg (show ¬ nI 3 = 1 by decide)]
    exact ta_s w B C (Or.inr ⟨rfl, rfl⟩) (m - m0) 0 (by omega)
  | 4, _ =>
    rw [e_233, b_233_0, if_neg (show ¬ nI 4 = 0 by decide), if_neg (show ¬ nI 4 = 1 by decide)]
    have z : fb_ct (mkP D N m0 0) 2880 = 0 := fct_0 2880 (fun i _ => rfl)
    have lp := ta_p (X := X) (d := d) (m0 := m0) w B C (m - m0) 0 (by omega)
    rw [z] at lp
    exact lp
  | _ + 5, q5 => exact absurd q5 (by omega)
end
