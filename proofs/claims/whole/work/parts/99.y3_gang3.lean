/-! gangs: the reference's tables -/
/-- what the reference holds of the people -/
def GP (isE : Nat → Bool) (tg : Nat → Nat → Nat) (h : av_H) : Prop := (∀ q, q < 10 → h.2.1 159 q = bI (isE q)) ∧ ∀ a b, a < 10 → b < 10 → tg a b ≤ 99 ∧ h.2.1 190 (10 * a + b) = nI (tg a b)
theorem GP.fr {isE : Nat → Bool} {tg : Nat → Nat → Nat} {h h' : av_H} (G : GP isE tg h) (A : agr (FP false [159, 190] []) h h') : GP isE tg h' := ⟨fun q hq => (A.I rfl).trans (G.1 q hq), fun a b ha hb => ⟨(G.2 a b ha hb).1, (A.I rfl).trans (G.2 a b ha hb).2⟩⟩
/-- the tables are right for person p -/
def GT (isE : Nat → Bool) (tg : Nat → Nat → Nat) (h : av_H) (p : Nat) : Prop := ∀ L, L < 1024 → h.2.1 191 (1024 * p + L) = nI (gN isE tg (10 - p) L).2 ∧ h.2.1 192 (1024 * p + L) = nI (gN isE tg (10 - p) L).1
section
variable {isE : Nat → Bool} {tg : Nat → Nat → Nat}
theorem gI_sb {g : Nat → Nat × Nat} {p L B : Nat} (hB : ∀ L, (g L).2 ≤ B) (ht : ∀ e, e < 10 → tg p e ≤ 99) : ∀ e, e ≤ 10 → (gI isE tg g p L e).2 ≤ B + 99
  | 0, _ => by
    have := hB L
    rw [gI]
    omega
  | e + 1, he => by
    have ih := gI_sb hB ht (L := L) e (by omega)
    rw [gI]
    split
    · have := hB (nd L (2 ^ e))
      have := ht e (by omega)
      dsimp only
      omega
    · exact ih
theorem gN_sb (ht : ∀ a b, a < 10 → b < 10 → tg a b ≤ 99) : ∀ k, k ≤ 10 → ∀ L, (gN isE tg k L).2 ≤ 99 * k
  | 0, _, L => Nat.zero_le _
  | k + 1, hk, L => by
    have ih := gN_sb ht k (by omega)
    rw [gN]
    split
    · have := ih L
      omega
    · have := gI_sb (isE := isE) (p := 9 - k) (L := L) ih (fun e he => ht (9 - k) e (by omega) he) 10 (Nat.le_refl _)
      omega
theorem gN_mb {k L : Nat} (hk : k ≤ 10) : (gN isE tg k L).1 ≤ 10 := by
  have := (gN_ub (isE := isE) (tg := tg) k L hk).1
  have := eo_p (isE := isE) 10
  omega
end
section
variable {X : av_X} {d : Nat} {isE : Nat → Bool} {tg : Nat → Nat → Nat} {h0 : av_H}
theorem ge_lp (G0 : GP isE tg h0) {k L : Nat} (hk : k ≤ 9) (l10 : L < 1024) (z : isE (9 - k) = false) : ∀ m e h, e + m = 10 → WF h → off false [191, 192] [] h0 h → GT isE tg h (10 - k) → h.2.1 191 (1024 * (9 - k) + L) = nI (gI isE tg (gN isE tg k) (9 - k) L e).2 → h.2.1 192 (1024 * (9 - k) + L) = nI (gI isE tg (gN isE tg k) (9 - k) L e).1 → ∃ h', WF h' ∧ off false [191, 192] [] h0 h' ∧ (∀ j, j ≠ 1024 * (9 - k) + L → h'.2.1 191 j = h.2.1 191 j ∧ h'.2.1 192 j = h.2.1 192 j) ∧ h'.2.1 191 (1024 * (9 - k) + L) = nI (gI isE tg (gN isE tg k) (9 - k) L 10).2 ∧ h'.2.1 192 (1024 * (9 - k) + L) = nI (gI isE tg (gN isE tg k) (9 - k) L 10).1 ∧ bd X (d + 1) 334 58 [(0, vr (some 137)), (1, vi (nI (9 - k))), (2, vi (nI L)), (3, vi (nI (1024 * (9 - k) + L))), (4, vi (nI e))] [] h = bd X (d + 1) 334 27 [(0, vr (some 137)), (1, vi (nI (9 - k))), (2, vi (nI (L + 1)))] [] h'
  | 0, e, h, he, w, O, T, H1, H2 => by
    obtain rfl : e = 10 := by omega
    refine ⟨h, w, O, fun j _ => ⟨rfl, rfl⟩, H1, H2, ?_⟩
    rw [b_334_58, if_neg (show ¬ nI 10 < 10 by decide), nI_1]
  | m + 1, e, h, he, w, O, T, H1, H2 => by
    have G := G0.fr (O.fr (by decide))
    have sb := gN_sb (isE := isE) (fun a b ha hb => (G0.2 a b ha hb).1) k (by omega)
    have mb := fun L => gN_mb (isE := isE) (tg := tg) (k := k) (L := L) (by omega)
    have gs := gI_sb (isE := isE) (p := 9 - k) (L := L) sb (fun e he => (G0.2 (9 - k) e (by omega) he).1) e (by omega)
    have gm := (gI_ub (isE := isE) (tg := tg) (g := gN isE tg k) (p := 9 - k) (L := L) (A := 11) (B := 11) (by have := mb L; omega) (fun e _ _ _ => by have := mb (nd L (2 ^ e)); omega) e (by omega)).1
    rw [b_334_58, if_pos (show nI e < 10 from nI_lt (b := 10) (by omega) (by omega)), gR_137_28 w, ld_159 w (by omega), G.1 (9 - k) (by omega), z, if_pos (show bI false = 0 from rfl), nb_bit (by omega) (by omega), nI_1]
    have skip : gI isE tg (gN isE tg k) (9 - k) L (e + 1) = gI isE tg (gN isE tg k) (9 - k) L e → ∃ h', WF h' ∧ off false [191, 192] [] h0 h' ∧ (∀ j, j ≠ 1024 * (9 - k) + L → h'.2.1 191 j = h.2.1 191 j ∧ h'.2.1 192 j = h.2.1 192 j) ∧ h'.2.1 191 (1024 * (9 - k) + L) = nI (gI isE tg (gN isE tg k) (9 - k) L 10).2 ∧ h'.2.1 192 (1024 * (9 - k) + L) = nI (gI isE tg (gN isE tg k) (9 - k) L 10).1 ∧ bd X (d + 1) 334 58 [(0, vr (some 137)), (1, vi (nI (9 - k))), (2, vi (nI L)), (3, vi (nI (1024 * (9 - k) + L))), (4, vi (nI (e + 1)))] [] h = bd X (d + 1) 334 27 [(0, vr (some 137)), (1, vi (nI (9 - k))), (2, vi (nI (L + 1)))] [] h' := fun q => by
      have q1 : h.2.1 191 (1024 * (9 - k) + L) = nI (gI isE tg (gN isE tg k) (9 - k) L (e + 1)).2 := by rw [q]; exact H1
      have q2 : h.2.1 192 (1024 * (9 - k) + L) = nI (gI isE tg (gN isE tg k) (9 - k) L (e + 1)).1 := by rw [q]; exact H2
      exact ge_lp G0 hk l10 z m (e + 1) h (by omega) w O T q1 q2
    cases u : L.testBit e with
    | false =>
      rw [if_neg (show ¬ bI false = 1 by decide)]
      exact skip (by rw [gI, u, Bool.false_and, Bool.false_and, if_neg (by decide)])
    | true =>
      rw [if_pos (show bI true = 1 from rfl), gR_137_28 w, ld_159 w (by omega), G.1 e (by omega)]
      cases y : isE e with
      | false =>
        rw [if_pos (show bI false = 0 from rfl)]
        exact skip (by rw [gI, y, Bool.and_false, Bool.false_and, if_neg (by decide)])
      | true =>
        have nl : nd L (2 ^ e) < 1024 := nd_lt (n := 10) l10
        obtain ⟨t1, t2⟩ := T (nd L (2 ^ e)) nl
        rw [show 10 - (10 - k) = k by omega] at t1 t2
        have s1 := sb (nd L (2 ^ e))
        have m1 := mb (nd L (2 ^ e))
        have tl := (G0.2 (9 - k) e (by omega) (by omega)).1
        have w1 : WF (av_uI h 192 (1024 * (9 - k) + L) (nI ((gN isE tg k (nd L (2 ^ e))).1 + 1))) := WF_uI w
        have take : lxB ((gN isE tg k (nd L (2 ^ e))).1 + 1, (gN isE tg k (nd L (2 ^ e))).2 + tg (9 - k) e) (gI isE tg (gN isE tg k) (9 - k) L e) = true → ∃ h', WF h' ∧ off false [191, 192] [] h0 h' ∧ (∀ j, j ≠ 1024 * (9 - k) + L → h'.2.1 191 j = h.2.1 191 j ∧ h'.2.1 192 j = h.2.1 192 j) ∧ h'.2.1 191 (1024 * (9 - k) + L) = nI (gI isE tg (gN isE tg k) (9 - k) L 10).2 ∧ h'.2.1 192 (1024 * (9 - k) + L) = nI (gI isE tg (gN isE tg k) (9 - k) L 10).1 ∧ bd X (d + 1) 334 58 [(0, vr (some 137)), (1, vi (nI (9 - k))), (2, vi (nI L)), (3, vi (nI (1024 * (9 - k) + L))), (4, vi (nI (e + 1)))] [] (av_uI (av_uI h 192 (1024 * (9 - k) + L) (nI ((gN isE tg k (nd L (2 ^ e))).1 + 1))) 191 (1024 * (9 - k) + L) (nI ((gN isE tg k (nd L (2 ^ e))).2 + tg (9 - k) e))) = bd X (d + 1) 334 27 [(0, vr (some 137)), (1, vi (nI (9 - k))), (2, vi (nI (L + 1)))] [] h' := fun q => by
          have eg : gI isE tg (gN isE tg k) (9 - k) L (e + 1) = ((gN isE tg k (nd L (2 ^ e))).1 + 1, (gN isE tg k (nd L (2 ^ e))).2 + tg (9 - k) e) := by rw [gI, u, y, q, if_pos (show (true && true && true) = true from rfl)]
          obtain ⟨h', a1, a2, a3, a4, a5, a6⟩ := ge_lp G0 hk l10 z m (e + 1) (av_uI (av_uI h 192 (1024 * (9 - k) + L) (nI ((gN isE tg k (nd L (2 ^ e))).1 + 1))) 191 (1024 * (9 - k) + L) (nI ((gN isE tg k (nd L (2 ^ e))).2 + tg (9 - k) e))) (by omega) (WF_uI w1) (agr.uI rfl (agr.uI rfl O)) (fun L' hL' => by
            rw [uI_nk (by omega), uI_ne (by decide), uI_ne (by decide), uI_nk (by omega)]
            exact T L' hL') (by rw [eg, uI_eq]) (by rw [eg, uI_ne (by decide), uI_eq])
          refine ⟨h', a1, a2, fun j hj => ?_, a4, a5, a6⟩
          obtain ⟨b1, b2⟩ := a3 j hj
          rw [b1, b2, uI_nk hj, uI_ne (by decide), uI_ne (by decide), uI_nk hj]
          exact ⟨rfl, rfl⟩
        have ei : ¬ bI true = 0 := by decide
        rw [if_neg ei, gR_137_72 w, show (1024 : Int32) = nI 1024 from rfl, nI_1, show 9 - k + 1 = 10 - k by omega, pk_mul, nb_sh1 e (by omega), nb_andn, nI_add, ld_192 w (by omega), t2, gR_137_71 w, ld_191 w (by omega), t1, gR_137_70 w, show (10 : Int32) = nI 10 from rfl, pk_mul, nI_add, ld_190 w (by omega), (G.2 (9 - k) e (by omega) (by omega)).2, gR_137_72 w, ld_192 w (by omega), H2, nI_1, nI_add]
        by_cases c1 : (gI isE tg (gN isE tg k) (9 - k) L e).1 < (gN isE tg k (nd L (2 ^ e))).1 + 1
        · rw [if_pos (nI_lt c1 (by omega)), gR_137_72 w, st_192 w (by omega), gR_137_71 w1, st_191 w1 (by omega)]
          exact take (by rw [lxB, decide_eq_true c1, Bool.true_or])
        · rw [if_neg (nI_nlt (by omega) (by omega)), gR_137_72 w, ld_192 w (by omega), H2]
          by_cases c2 : (gN isE tg k (nd L (2 ^ e))).1 + 1 = (gI isE tg (gN isE tg k) (9 - k) L e).1
          · rw [if_pos (congrArg nI c2), gR_137_71 w, ld_191 w (by omega), H1]
            by_cases c3 : (gI isE tg (gN isE tg k) (9 - k) L e).2 < (gN isE tg k (nd L (2 ^ e))).2 + tg (9 - k) e
            · rw [if_pos (nI_lt c3 (by omega)), gR_137_72 w, st_192 w (by omega), gR_137_71 w1, st_191 w1 (by omega)]
              exact take (by rw [lxB, decide_eq_true c2, decide_eq_true c3, Bool.true_and, Bool.or_true])
            · rw [if_neg (nI_nlt (by omega) (by omega))]
              exact skip (by rw [gI, lxB, decide_eq_false c1, decide_eq_false c3, Bool.and_false, Bool.false_or, Bool.and_false, if_neg (by decide)])
          · rw [if_neg (fun q => c2 ((nI_eq (by omega) (by omega)).mp q))]
            exact skip (by rw [gI, lxB, decide_eq_false c1, decide_eq_false c2, Bool.false_and, Bool.false_or, Bool.and_false, if_neg (by decide)])
end
