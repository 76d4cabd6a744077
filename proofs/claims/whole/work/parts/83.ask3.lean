/-! why a drop may not be: the reference -/
def whV (b1 b2 b3 b4 b5 b6 b7 b8 : Bool) (r : Int32) : Int32 := if b1 = true then 1 else if b2 = true then 2 else if b3 = true then 3 else if b4 = true then 4 else if b5 = true then 5 else if b6 = true then 6 else if b7 = true then 7 else if b8 = true then 8 else r
section
variable {X : av_X} {d : Nat} {h : av_H}
theorem w85 (w : WF h) {u : Ru} (o : u.ok) (Q : u.Q h) (Jw : J_wi h) {ml : Nat} (Jl : lvJ h ml) {mk : Nat} {Tk P K : Nat → Nat} {B : Nat → Bool} (J : kyF h mk Tk P K B) {nf t s x e k H a b F ag L V wr N Mm m : Nat} {D : Nat → Nat → Nat} {M : Nat → Nat} (hf : h.2.1 137 85 = nI nf) (hN : nf ≤ 12) (t6 : t < 6) (hs4 : s < 4) (x10 : x < 10) (he : e < 100) (a10 : a < 10) (b10 : b < 10) (hk : k + H ≤ 24) (hH : 1 ≤ H) (hol_n : ∀ hr p, hol Tk P K B t hr mk = some p → p < 10) (hF : h.2.1 143 t = nI F) (hL : h.2.1 149 t = nI L) (hV : h.2.1 150 t = nI V) (L9 : L ≤ 9999) (V9 : V ≤ 9999) (hN48 : N < 2 ^ 48) (hM48 : Mm < 2 ^ 48) (nb : ∀ c, c < 4 → ∀ f, f < 12 → N.testBit (4 * f + c) = true → f < F ∧ x + c < 10) (Wd : ∀ f, f < 12 → ∀ c, c < 10 → h.2.1 146 (((4 * t + s) * 12 + f) * 10 + c) = oI (wsh D M t s f c m)) (de : ∀ i, i < m → D i 4 ≤ e) (eq : ∀ c, c < 4 → ∀ f, f < 12 → Mm.testBit (12 * c + f) = N.testBit (4 * f + c)) (R : agO (fun c f => wsh D M t s f (x + c) m) Mm e ag) (hwr : wr < 2147483648) (ewr : mx0 (u.an 0 (fct t s F e k (wvN h s e k) (bct Mm) H V ag)) = nI wr) : ∀ n v, v + n = k + H → ∃ h', tQ h h' ∧ bd X (d + 3) 297 85 [(0, vr (some 137)), (1, vi (nI t)), (2, vi (nI s)), (3, vi (nI x)), (4, vi (nI e)), (5, vi (nI k)), (6, vi (nI a)), (7, vi (nI b)), (8, vl (lN N)), (10, vi (nI H)), (11, vi (nI v))] [] h = av_rI (if anyN n v (fun k => !lvB h ml (nI t) (nI e) (nI k)) = true then 8 else wh9 (anyN H k (fun k => u.st (fct t s F e k (wvN h s e k) (bct Mm) H V ag))) (anyN H k (fun k => u.qu (fct t s F e k (wvN h s e k) (bct Mm) H V ag))) (decide (L < V + wr)) (u.ky && anyN H k (fun k => !kyB (nI a) (nI b) (hol Tk P K B t (e * 24 + k) mk))) (anyN nf 0 (flP h t s e k H))) h'
  | 0, v, hv => by
    have T0 : tQ h h := ⟨w, agr.rfl⟩
    obtain ⟨h1, T1, F1, e1⟩ := s_lays (X := X) (d := d + 2) (pn := bct Mm) (hs := H) (wo := V) (ag := ag) T0 t6 hF
    obtain ⟨h2, T2, e2⟩ := w119 (X := X) (d := d) T1 o Q Jw J hf hN t6 hs4 he a10 b10 hk hH hol_n hL hV L9 V9 F1 hwr ewr
    refine ⟨h2, T2, ?_⟩
    rw [b_297_85, nI_add, if_neg (nI_nlt (by omega) (by omega)), s_bits' (by omega), bits_eq2 hM48 eq, gR_137_17 w, ld_150 w t6, hV, is_137 w, s_age w t6 hs4 x10 he hN48 nb Wd de eq R, av_cI_r, Option.bind_some, is_137 w]
    dsimp only
    rw [e1, av_cV_r, Option.bind_some, e2, anyN, if_neg (show ¬ false = true by decide)]
  | n + 1, v, hv => by
    have T0 : tQ h h := ⟨w, agr.rfl⟩
    obtain ⟨h2, T2, e2⟩ := w85 w o Q Jw Jl J hf hN t6 hs4 x10 he a10 b10 hk hH hol_n hF hL hV L9 V9 hN48 hM48 nb Wd de eq R hwr ewr n (v + 1) (by omega)
    rw [b_297_85, nI_add, if_pos (nI_lt (by omega) (by omega)), is_137 w, s_lv T0 Jl, av_cI_r, Option.bind_some, nI_1, anyN]
    cases lvB h ml (nI t) (nI e) (nI v) with
    | false =>
      refine ⟨h, T0, ?_⟩
      rw [if_pos (show bI false = 0 from rfl), Bool.not_false, Bool.true_or, if_pos rfl]
    | true =>
      refine ⟨h2, T2, ?_⟩
      rw [if_neg (show ¬ bI true = 0 by decide), Bool.not_true, Bool.false_or]
      exact e2
theorem s_whyNot (w : WF h) {u : Ru} (o : u.ok) (Q : u.Q h) (Jw : J_wi h) {ml : Nat} (Jl : lvJ h ml) {mk : Nat} {Tk P K : Nat → Nat} {B : Nat → Bool} (J : kyF h mk Tk P K B) {mn : Nat} {q : Nat → Nat} (Nb : neB mn q) (Nq : neQ h mn q) {nf t s x e k H a b F C W ag L V wr N Mm m sb eb : Nat} {xa xb : Int32} {D : Nat → Nat → Nat} {M Nn : Nat → Nat} (Bd : DB m D M Nn) (Dr : DR h m D Nn) (hf : h.2.1 137 85 = nI nf) (hN : nf ≤ 12) (t6 : t < 6) (hs4 : s < 4) (xC : x < C) (C10 : C ≤ 10) (W4 : W ≤ 4) (F1 : 1 ≤ F) (F12 : F ≤ 12) (he : e < 100) (hk24 : k < 24) (a10 : a < 10) (b10 : b < 10) (eH : H = (F + u.r - 1) / u.r) (hol_n : ∀ hr p, hol Tk P K B t hr mk = some p → p < 10) (hF : h.2.1 143 t = nI F) (hC : h.2.1 144 t = nI C) (hW : h.2.1 148 t = nI W) (hL : h.2.1 149 t = nI L) (hV : h.2.1 150 t = nI V) (L9 : L ≤ 9999) (V9 : V ≤ 9999) (hsb : h.2.1 147 ((4 * t + s) * 10 + x) = bI (sb.testBit x)) (hea : h.2.1 159 a = bI (eb.testBit a)) (heb : h.2.1 159 b = bI (eb.testBit b)) (hxa : h.2.1 160 a = xa) (hxb : h.2.1 160 b = xb) (xxa : xa = -1 ∨ ∃ y, y < 100 ∧ xa = nI y) (xxb : xb = -1 ∨ ∃ y, y < 100 ∧ xb = nI y) (eN : N = ro (roP h mn q t s x (nI e)) (min W (C - x)) F) (hN48 : N < 2 ^ 48) (hM48 : Mm < 2 ^ 48) (nb : ∀ c, c < 4 → ∀ f, f < 12 → N.testBit (4 * f + c) = true → f < F ∧ x + c < 10) (Wd : ∀ f, f < 12 → ∀ c, c < 10 → h.2.1 146 (((4 * t + s) * 12 + f) * 10 + c) = oI (wsh D M t s f c m)) (de : ∀ i, i < m → D i 4 ≤ e) (eq : ∀ c, c < 4 → ∀ f, f < 12 → Mm.testBit (12 * c + f) = N.testBit (4 * f + c)) (R : agO (fun c f => wsh D M t s f (x + c) m) Mm e ag) (hwr : wr < 2147483648) (ewr : mx0 (u.an 0 (fct t s F e k (wvN h s e k) (bct Mm) H V ag)) = nI wr) : ∃ h', tQ h h' ∧ ev X (d + 4) 297 [vr (some 137), vi (nI t), vi (nI s), vi (nI x), vi (nI e), vi (nI k), vi (nI a), vi (nI b)] h = av_rI (whV (sb.testBit x) (decide (N = 0)) (decide (a = b) || (!eb.testBit a && !eb.testBit b)) (decide (24 < k + H)) (anyN m 0 (gaB D e k H (nI a) (nI b))) (anyN m 0 (crB D e k H t)) (!drB xa e u.dd || !drB xb e u.dd) (anyN H k (fun k => !lvB h ml (nI t) (nI e) (nI k))) (wh9 (anyN H k (fun k => u.st (fct t s F e k (wvN h s e k) (bct Mm) H V ag))) (anyN H k (fun k => u.qu (fct t s F e k (wvN h s e k) (bct Mm) H V ag))) (decide (L < V + wr)) (u.ky && anyN H k (fun k => !kyB (nI a) (nI b) (hol Tk P K B t (e * 24 + k) mk))) (anyN nf 0 (flP h t s e k H)))) h' := by
  have r1 := o.2.2.2.1
  have T0 : tQ h h := ⟨w, agr.rfl⟩
  have H1 : 1 ≤ H := by
    rw [eH]
    exact Nat.div_pos (by omega) (by omega)
  have H12 : H ≤ 24 := by
    rw [eH]
    exact Nat.le_trans (Nat.div_le_self _ _) (by omega)
  have h0' : ¬ nI u.r = 0 := nI_ne0 (by omega) (by omega)
  have k42 : ∃ h', tQ h h' ∧ bd X (d + 3) 297 42 [(0, vr (some 137)), (1, vi (nI t)), (2, vi (nI s)), (3, vi (nI x)), (4, vi (nI e)), (5, vi (nI k)), (6, vi (nI a)), (7, vi (nI b)), (8, vl (lN N)), (10, vi (nI H))] [] h = av_rI (if decide (24 < k + H) = true then 4 else if anyN m 0 (gaB D e k H (nI a) (nI b)) = true then 5 else if anyN m 0 (crB D e k H t) = true then 6 else if (!drB xa e u.dd || !drB xb e u.dd) = true then 7 else if anyN H k (fun k => !lvB h ml (nI t) (nI e) (nI k)) = true then 8 else (wh9 (anyN H k (fun k => u.st (fct t s F e k (wvN h s e k) (bct Mm) H V ag))) (anyN H k (fun k => u.qu (fct t s F e k (wvN h s e k) (bct Mm) H V ag))) (decide (L < V + wr)) (u.ky && anyN H k (fun k => !kyB (nI a) (nI b) (hol Tk P K B t (e * 24 + k) mk))) (anyN nf 0 (flP h t s e k H)))) h' := by
    rw [b_297_42, nI_add]
    by_cases q4 : 24 < k + H
    · refine ⟨h, T0, ?_⟩
      rw [if_pos (show (24 : Int32) < nI (k + H) from nI_lt (a := 24) q4 (by omega)), decide_eq_true q4, if_pos rfl]
    · rw [if_neg (show ¬ (24 : Int32) < nI (k + H) from nI_nlt (a := 24) (by omega) (by omega)), decide_eq_false q4, if_neg (show ¬ false = true by decide), is_137 w, s_gang w Bd Dr a10 he hk24 (by omega), av_cI_r, Option.bind_some]
      cases anyN m 0 (gaB D e k H (nI a) (nI b)) with
      | true =>
        refine ⟨h, T0, ?_⟩
        rw [if_neg (show ¬ bI true = 0 by decide), if_pos rfl]
      | false =>
        rw [if_pos (show bI false = 0 from rfl), if_neg (show ¬ false = true by decide), is_137 w, s_crad w Bd Dr t6 he hk24 (by omega), av_cI_r, Option.bind_some]
        cases anyN m 0 (crB D e k H t) with
        | true =>
          refine ⟨h, T0, ?_⟩
          rw [if_neg (show ¬ bI true = 0 by decide), if_pos rfl]
        | false =>
          rw [if_pos (show bI false = 0 from rfl), if_neg (show ¬ false = true by decide), is_137 w, s_drl w Q a10 hxa xxa, av_cI_r, Option.bind_some]
          cases drB xa e u.dd with
          | false =>
            refine ⟨h, T0, ?_⟩
            rw [if_pos (show bI false = 0 from rfl), Bool.not_false, Bool.true_or, if_pos rfl]
          | true =>
            rw [if_neg (show ¬ bI true = 0 by decide), is_137 w, s_drl w Q b10 hxb xxb, av_cI_r, Option.bind_some, Bool.not_true, Bool.false_or]
            cases drB xb e u.dd with
            | false =>
              refine ⟨h, T0, ?_⟩
              rw [if_pos (show bI false = 0 from rfl), Bool.not_false, if_pos rfl]
            | true =>
              rw [if_neg (show ¬ bI true = 0 by decide), Bool.not_true, if_neg (show ¬ false = true by decide)]
              exact w85 w o Q Jw Jl J hf hN t6 hs4 (by omega) he a10 b10 (by omega) H1 hol_n hF hL hV L9 V9 hN48 hM48 nb Wd de eq R hwr ewr H k rfl
  rw [e_297, b_297_0, is_137 w, s_rO' w Nb Nq t6 hs4 xC hF F12 hC C10 hW W4, ← eN, is_137 w, e_290, b_290_0, gR_137_10 w, ld_143 w t6, hF, gI_137_37 w, Q.2.2.1, gI_137_37 w, Q.2.2.1, if_neg h0', nI_add, nI_prd (by omega), pk_div (by omega) (by omega) (by omega), ← eH, av_cI_r, Option.bind_some, gR_137_14 w, s_stopOf', ld_147 w (by omega), hsb, whV]
  simp only [lN_0 (show N < 2 ^ 64 by omega)]
  cases sb.testBit x with
  | true =>
    refine ⟨h, T0, ?_⟩
    rw [if_neg (show ¬ bI true = 0 by decide), if_pos rfl]
  | false =>
    rw [if_pos (show bI false = 0 from rfl), if_neg (show ¬ false = true by decide)]
    by_cases q2 : N = 0
    · refine ⟨h, T0, ?_⟩
      rw [if_pos q2, decide_eq_true q2, if_pos rfl]
    · rw [if_neg q2, decide_eq_false q2, if_neg (show ¬ false = true by decide)]
      by_cases q3 : a = b
      · refine ⟨h, T0, ?_⟩
        rw [if_pos (congrArg nI q3), decide_eq_true q3, Bool.true_or, if_pos rfl]
      · rw [if_neg (fun y => q3 ((nI_eq (by omega) (by omega)).mp y)), decide_eq_false q3, Bool.false_or, gR_137_28 w, ld_159 w a10, hea]
        cases eb.testBit a with
        | true =>
          rw [if_neg (show ¬ bI true = 0 by decide), Bool.not_true, Bool.false_and, if_neg (show ¬ false = true by decide)]
          exact k42
        | false =>
          rw [if_pos (show bI false = 0 from rfl), gR_137_28 w, ld_159 w b10, heb, Bool.not_false, Bool.true_and]
          cases eb.testBit b with
          | true =>
            rw [if_neg (show ¬ bI true = 0 by decide), Bool.not_true, if_neg (show ¬ false = true by decide)]
            exact k42
          | false =>
            refine ⟨h, T0, ?_⟩
            rw [if_pos (show bI false = 0 from rfl), Bool.not_false, if_pos rfl]
end
