/-! why a drop may not be: the reference, from its end on -/
section
variable {X : av_X} {d : Nat} {h : av_H}
theorem flP_fr {h h' : av_H} (A : agr (FP false [204, 205, 206, 207, 208, 209] []) h h') {t s e k H i : Nat} : flP h' t s e k H i = flP h t s e k H i := by
  unfold flP
  rw [A.I rfl, A.I rfl, A.I rfl, A.I rfl, A.I rfl, A.I rfl]
theorem w195 {h0 : av_H} (T : tQ h0 h) {nf t s e k H : Nat} (hf : h0.2.1 137 85 = nI nf) (hN : nf ≤ 12) : bd X (d + 2) 297 195 [(0, vr (some 137)), (1, vi (nI t)), (2, vi (nI s)), (4, vi (nI e)), (5, vi (nI k)), (10, vi (nI H))] [] h = av_rI (if anyN nf 0 (flP h0 t s e k H) = true then 13 else 0) h := by
  have w := T.1
  have A := T.2.fr (q := false) (cs := [204, 205, 206, 207, 208, 209]) (fs := [(137, 85)]) (by decide)
  rw [b_297_195, is_137 w, s_film' w ((A.I rfl).trans hf) hN, anyN_cg (Q := flP h0 t s e k H) _ _ (fun i _ _ => flP_fr (A.sub (by decide)))]
  cases anyN nf 0 (flP h0 t s e k H) with
  | false => rw [if_pos (show bI false = 0 from rfl), if_neg (by decide)]
  | true => rw [if_neg (show ¬ bI true = 0 by decide), if_pos rfl]
theorem w165 {h0 : av_H} (T : tQ h0 h) {u : Ru} (Q : u.Q h0) {mk : Nat} {Tk P K : Nat → Nat} {B : Nat → Bool} (J : kyF h0 mk Tk P K B) {nf t s e k H a b : Nat} (hf : h0.2.1 137 85 = nI nf) (hN : nf ≤ 12) (t6 : t < 6) (he : e < 100) (a10 : a < 10) (b10 : b < 10) (hk : k + H ≤ 24) (hol_n : ∀ hr p, hol Tk P K B t hr mk = some p → p < 10) : ∀ n v, v + n = k + H → bd X (d + 2) 297 165 [(0, vr (some 137)), (1, vi (nI t)), (2, vi (nI s)), (4, vi (nI e)), (5, vi (nI k)), (6, vi (nI a)), (7, vi (nI b)), (10, vi (nI H)), (11, vi (nI v))] [] h = av_rI (if (u.ky && anyN n v (fun k => !kyB (nI a) (nI b) (hol Tk P K B t (e * 24 + k) mk))) = true then 12 else if anyN nf 0 (flP h0 t s e k H) = true then 13 else 0) h
  | 0, v, hv => by
    rw [b_297_165, nI_add, if_neg (nI_nlt (by omega) (by omega)), anyN, Bool.and_false, if_neg (show ¬ false = true by decide)]
    exact w195 T hf hN
  | n + 1, v, hv => by
    have w := T.1
    have ih := w165 T Q J (s := s) hf hN t6 he a10 b10 hk hol_n n (v + 1) (by omega)
    have Q0 := Q.fr (T.2.fr (by decide))
    have J0 := J.fr (T.2.fr (by decide))
    rw [b_297_165, nI_add, if_pos (nI_lt (by omega) (by omega)), gI_137_41 w, Q0.2.2.2.2.1]
    cases q : u.ky with
    | false =>
      rw [if_pos (show bI false = 0 from rfl), Bool.false_and, if_neg (show ¬ false = true by decide)]
      exact w195 T hf hN
    | true =>
      rw [q, Bool.true_and] at ih
      rw [if_neg (show ¬ bI true = 0 by decide), is_137 w, show (24 : Int32) = nI 24 from rfl, pk_mul, nI_add, s_holder' w J0 t6 (by omega), Bool.true_and, anyN, show 24 * e + v = e * 24 + v by omega, nI_1]
      cases z : hol Tk P K B t (e * 24 + v) mk with
      | none =>
        rw [if_pos (show oI none = -1 from rfl)]
        rfl
      | some p =>
        have hp := hol_n _ p z
        have n1 : ¬ oI (some p) = -1 := fun z => by
          have := congrArg Int32.toInt z
          rw [show oI (some p) = nI p from rfl, toI_nI (by omega), show (-1 : Int32).toInt = -1 from rfl] at this
          omega
        rw [if_neg n1, show oI (some p) = nI p from rfl, kyB]
        by_cases y1 : nI p = nI a
        · rw [if_pos y1, decide_eq_true y1.symm, Bool.true_or, Bool.not_true, Bool.false_or]
          exact ih
        · rw [if_neg y1, decide_eq_false (fun z => y1 z.symm), Bool.false_or]
          by_cases y2 : nI p = nI b
          · rw [if_pos y2, decide_eq_true y2.symm, Bool.not_true, Bool.false_or]
            exact ih
          · rw [if_neg y2, decide_eq_false (fun z => y2 z.symm), Bool.not_false, Bool.true_or, if_pos rfl]
/-- the rope -/
theorem w_rope {L V n : Nat} (hL : L ≤ 9999) (hV : V ≤ 9999) (hn : n < 2147483648) : (nI L - nI n < nI V) ↔ L < V + n := by
  rw [i_lt, toI_nI (by omega), Int32.toInt_sub, toI_nI (by omega), toI_nI (by omega), Int.bmod_eq_of_le (by omega) (by omega)]
  omega
/-- from the walk over the hours on -/
def wh9 (b9 b10 b11 b12 b13 : Bool) : Int32 := if b9 = true then 9 else if b10 = true then 10 else if b11 = true then 11 else if b12 = true then 12 else if b13 = true then 13 else 0
theorem w119 {h0 : av_H} (T : tQ h0 h) {u : Ru} (o : u.ok) (Q : u.Q h0) (Jw : J_wi h0) {mk : Nat} {Tk P K : Nat → Nat} {B : Nat → Bool} (J : kyF h0 mk Tk P K B) {nf t s e k H a b fl pn wo ag L V wr : Nat} (hf : h0.2.1 137 85 = nI nf) (hN : nf ≤ 12) (t6 : t < 6) (hs4 : s < 4) (he : e < 100) (a10 : a < 10) (b10 : b < 10) (hk : k + H ≤ 24) (hH : 1 ≤ H) (hol_n : ∀ hr p, hol Tk P K B t hr mk = some p → p < 10) (hL : h0.2.1 149 t = nI L) (hV : h0.2.1 150 t = nI V) (L9 : L ≤ 9999) (V9 : V ≤ 9999) (F : fQ h t fl pn H wo ag) (hwr : wr < 2147483648) (ewr : mx0 (u.an 0 (fct t s fl e k (wvN h0 s e k) pn H wo ag)) = nI wr) : ∃ h', tQ h0 h' ∧ bd X (d + 3) 297 119 [(0, vr (some 137)), (1, vi (nI t)), (2, vi (nI s)), (4, vi (nI e)), (5, vi (nI k)), (6, vi (nI a)), (7, vi (nI b)), (10, vi (nI H)), (11, vi 0)] [] h = av_rI (wh9 (anyN H k (fun k => u.st (fct t s fl e k (wvN h0 s e k) pn H wo ag))) (anyN H k (fun k => u.qu (fct t s fl e k (wvN h0 s e k) pn H wo ag))) (decide (L < V + wr)) (u.ky && anyN H k (fun k => !kyB (nI a) (nI b) (hol Tk P K B t (e * 24 + k) mk))) (anyN nf 0 (flP h0 t s e k H))) h' := by
  obtain ⟨h1, T1, F1, e1⟩ := w119_s (X := X) (d := d) o Q Jw (a := nI a) (b := nI b) hs4 he hk hH H 0 h (by omega) T F
  obtain ⟨h2, T2, F2, e2⟩ := w119_q (X := X) (d := d) o Q Jw (a := nI a) (b := nI b) hs4 he hk hH H 0 h1 (by omega) T1 F1
  simp only [Nat.add_zero] at e1 e2
  rw [show (vi 0 : av_V) = vi (nI 0) from rfl, e1, wh9]
  by_cases q9 : anyN H k (fun k => u.st (fct t s fl e k (wvN h0 s e k) pn H wo ag)) = true
  · rw [if_pos q9, if_pos q9]
    exact ⟨h1, T1, rfl⟩
  · rw [if_neg q9, if_neg q9]
    rw [e2]
    by_cases q10 : anyN H k (fun k => u.qu (fct t s fl e k (wvN h0 s e k) pn H wo ag)) = true
    · rw [if_pos q10, if_pos q10]
      exact ⟨h2, T2, rfl⟩
    · rw [if_neg q10, if_neg q10]
      have w2 := T2.1
      have A2 := T2.2.fr (q := false) (cs := [149, 150]) (fs := []) (by decide)
      obtain ⟨h3, T3, F3, e3⟩ := s_byLine (X := X) (d := d) T2 o Q Jw (show 0 < 3 by decide) hs4 he (show k < 24 by omega) F2
      rw [ewr] at e3
      refine ⟨h3, T3, ?_⟩
      rw [b_297_119, show (2 : Int32) = nI 2 from rfl, pk_mul, if_neg (nI_nlt (by omega) (by omega)), gR_137_17 w2, ld_150 w2 t6, (A2.I rfl).trans hV, gR_137_16 w2, ld_149 w2 t6, (A2.I rfl).trans hL, is_137 w2, show (0 : Int32) = nI 0 from rfl, e3, av_cI_r, Option.bind_some]
      by_cases q11 : L < V + wr
      · rw [if_pos ((w_rope L9 V9 hwr).mpr q11), decide_eq_true q11, if_pos rfl]
      · rw [if_neg (fun y => q11 ((w_rope L9 V9 hwr).mp y)), decide_eq_false q11, if_neg (show ¬ false = true by decide)]
        exact w165 (d := d + 1) T3 Q J hf hN t6 he a10 b10 hk hol_n H k rfl
end
