/-! why a drop may not be: the class, the hours -/
theorem rope64 {L V wr : Nat} (hL : L ≤ 9999) (hV : V ≤ 9999) (hw : wr < 2147483648) : (0 < lg_cmp ((nI V).toInt64 + (nI wr).toInt64) (nI L).toInt64) ↔ L < V + wr := by
  rw [lg_cmp_gt, Int64.lt_iff_toInt_lt, Int64.toInt_add, Int32.toInt_toInt64, Int32.toInt_toInt64, Int32.toInt_toInt64, toI_nI (by omega), toI_nI (by omega), toI_nI (by omega), Int.bmod_eq_of_le (by omega) (by omega)]
  omega
theorem dpc.t {h0 h : av_H} {i M : Nat} {D : Nat → Nat} (hi : i < 60) (P : dpc h0 i D M) (T : tC h0 h) : dpc h i D M := by
  have A := T.2.fr (q := false) (cs := dCells) (fs := []) (by decide +kernel)
  have e : ∀ j, FP false dCells [] (77 + i) j = true := fun j => by simp only [FP, dCells_in i hi, Bool.false_and, Bool.false_or, Bool.true_or]
  exact ⟨fun j hj => (A.I (e j)).trans (P.1 j hj), (A.L (e 18)).trans P.2⟩
section
variable {X : av_X} {d : Nat} {h : av_H}
theorem c_whyH (w : WF h) {u : Ru} (o : u.ok) (C : u.C h) (Jw : J_wi h) (Jf : J_fi h) {ml : Nat} (Jl : lvJ h ml) {mk : Nat} {Tk P K : Nat → Nat} {B : Nat → Bool} (J : kyE h mk Tk P K B) {nf m a L V M : Nat} {D : Nat → Nat} (hf : h.2.1 15 5 = nI nf) (hN : nf ≤ 12) (hm : m < 60) (Pd : dpc h m D M) (W : tw0 h (D 0) a (D 3) V) (r7 : h.2.1 a 3 = nI L) (L9 : L ≤ 9999) (V9 : V ≤ 9999) (b1 : D 1 < 4) (b4 : D 4 < 100) (b5 : D 5 + D 6 ≤ 24) (b6 : 1 ≤ D 6) (b15 : D 15 < 2147483648) (hol_n : ∀ hr p, hol Tk P K B (D 0) hr mk = some p → p < 10) : ∃ h', tC h h' ∧ ev X (d + 5) 207 [vr (some 0), vr (some (77 + m)), vr (some a)] h = av_rI (if anyN (D 6) (D 5) (fun k => !lvB h ml (nI (D 0)) (nI (D 4)) (nI k)) = true then 8 else wh9 (anyN (D 6) (D 5) (fun k => u.st (fcD h D k))) (anyN (D 6) (D 5) (fun k => u.qu (fcD h D k))) (decide (L < V + D 15)) (u.ky && anyN (D 6) (D 5) (fun k => !kyB (nI (D 8)) (nI (D 9)) (hol Tk P K B (D 0) (D 4 * 24 + k) mk))) (anyN nf 0 (flP h (D 0) (D 1) (D 4) (D 5) (D 6)))) h' := by
  have T0 : tC h h := ⟨w, agr.rfl⟩
  have b0 := W.1
  obtain ⟨h1, T1, e1⟩ := c_isStopped (X := X) (d := d) T0 o C Jw hm Pd.k W b1 b4 b5
  obtain ⟨h2, T2, e2⟩ := c_isQuiet (X := X) (d := d) T1 o C Jw hm Pd.k W b1 b4 b5
  have w2 := T2.1
  have P2 := Pd.t hm T2
  have k42 : bd X (d + 4) 207 42 [(0, vr (some 0)), (1, vr (some (77 + m)))] [] h2 = av_rI (if anyN nf 0 (flP h (D 0) (D 1) (D 4) (D 5) (D 6)) = true then 13 else 0) h2 := by
    have Jf2 : J_fi h2 := Jf.fr (T2.2.fr (by decide))
    have A := T2.2.fr (q := false) (cs := [15, 204, 205, 206, 207, 208, 209]) (fs := []) (by decide)
    rw [b_207_42, is_0 w2, c_film' w2 Jf2 ((A.I rfl).trans hf) hN hm P2 b0 b1 b5 b6, anyN_cg (Q := flP h (D 0) (D 1) (D 4) (D 5) (D 6)) _ _ (fun i _ _ => flP_fr (A.sub (by decide)))]
    cases anyN nf 0 (flP h (D 0) (D 1) (D 4) (D 5) (D 6)) with
    | false => rw [if_pos (show bI false = 0 from rfl), if_neg (show ¬ false = true by decide)]
    | true => rw [if_neg (show ¬ bI true = 0 by decide), if_pos rfl]
  rw [e_207, b_207_0, is_0 w, c_onl T0 Jl hm Pd.k b5, av_cI_r, Option.bind_some]
  cases anyN (D 6) (D 5) (fun k => !lvB h ml (nI (D 0)) (nI (D 4)) (nI k)) with
  | true =>
    refine ⟨h, T0, ?_⟩
    rw [Bool.not_true, if_pos (show bI false = 0 from rfl), if_pos rfl]
  | false =>
    rw [Bool.not_false, if_neg (show ¬ bI true = 0 by decide), if_neg (show ¬ false = true by decide), is_0 w, e1, av_cI_r, Option.bind_some, wh9]
    cases anyN (D 6) (D 5) (fun k => u.st (fcD h D k)) with
    | true =>
      refine ⟨h1, T1, ?_⟩
      rw [if_neg (show ¬ bI true = 0 by decide), if_pos rfl]
    | false =>
      rw [if_pos (show bI false = 0 from rfl), if_neg (show ¬ false = true by decide), is_0 T1.1, e2, av_cI_r, Option.bind_some]
      refine ⟨h2, T2, ?_⟩
      cases anyN (D 6) (D 5) (fun k => u.qu (fcD h D k)) with
      | true => rw [if_neg (show ¬ bI true = 0 by decide), if_pos rfl]
      | false =>
        obtain ⟨-, a226, -, z4, z5, z6⟩ := W.fr (T2.2.fr (q := true) (cs := [1]) (fs := []) (by decide))
        have ea : FP true [] [] a 3 = true := by simp only [FP, Bool.true_and, decide_eq_true a226, Bool.true_or]
        have z7 : h2.2.1 a 3 = nI L := ((T2.2.fr (q := true) (cs := []) (fs := []) (by decide)).I ea).trans r7
        have C2 := C.fr o (T2.2.fr (by decide))
        rw [if_pos (show bI false = 0 from rfl), if_neg (show ¬ false = true by decide), tw_gIv z4 z6, dr_g w2 hm P2.1 (by decide), tw_gIv z4 z7]
        by_cases q11 : L < V + D 15
        · rw [if_pos ((rope64 L9 V9 b15).mpr q11), decide_eq_true q11, if_pos rfl]
        · rw [if_neg (fun y => q11 ((rope64 L9 V9 b15).mp y)), decide_eq_false q11, if_neg (show ¬ false = true by decide), g015 w2 C2, gR_f o w2, C2.2.2.2.2.2.1]
          cases u.ky with
          | false =>
            rw [if_pos (show bI false = 0 from rfl), Bool.false_and, if_neg (show ¬ false = true by decide)]
            exact k42
          | true =>
            rw [if_neg (show ¬ bI true = 0 by decide), is_0 w2, c_keyh w2 (J.fr (T2.2.fr (by decide))) hm P2.k (P2.1 8 (by decide)) (P2.1 9 (by decide)) b0 b4 b5 hol_n, av_cI_r, Option.bind_some, Bool.true_and]
            cases anyN (D 6) (D 5) (fun k => !kyB (nI (D 8)) (nI (D 9)) (hol Tk P K B (D 0) (D 4 * 24 + k) mk)) with
            | true => rw [Bool.not_true, if_pos (show bI false = 0 from rfl), if_pos rfl]
            | false =>
              rw [Bool.not_false, if_neg (show ¬ bI true = 0 by decide), if_neg (show ¬ false = true by decide)]
              exact k42
end
