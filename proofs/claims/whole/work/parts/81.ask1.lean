/-! the reference asks the rule about a drop -/
def mx0 (x : Int32) : Int32 := if x < 0 then 0 else x
theorem mx0_n (x : Int32) : ∃ n, n < 2147483648 ∧ mx0 x = nI n := by
  unfold mx0
  by_cases q : x < 0
  · rw [if_pos q]
    exact ⟨0, by omega, rfl⟩
  · rw [if_neg q]
    rw [i_lt, tI_0] at q
    have hx := Int32.toInt_lt x
    refine ⟨x.toInt.toNat, by omega, Int32.toInt_inj.mp ?_⟩
    rw [toI_nI (by omega)]
    omega
section
variable {X : av_X} {d : Nat} {h : av_H}
theorem s_byLine {h0 : av_H} (T : tQ h0 h) {u : Ru} (o : u.ok) (Q : u.Q h0) (Jw : J_wi h0) {j t s fl e k pn hs wo ag : Nat} (hj : j < 3) (hs4 : s < 4) (he : e < 100) (hk : k < 24) (F : fQ h t fl pn hs wo ag) : ∃ h', tQ h0 h' ∧ fQ h' t fl pn hs wo ag ∧ ev X (d + 3) 293 [vr (some 137), vi (nI j), vi (nI s), vi (nI e), vi (nI k)] h = av_rI (mx0 (u.an j (fct t s fl e k (wvN h0 s e k) pn hs wo ag))) h' := by
  have w := T.1
  have Q0 := Q.fr (T.2.fr (by decide))
  have l0 := Q0.2.2.2.2.2.2.2.2 j hj
  rw [e_293, b_293_0, gR_137_36 w, ld_165 w (by omega), l0, Ru.an]
  by_cases z : u.q j = true
  · have hW' : h.2.1 154 ((100 * s + e) * 24 + k) = nI (wvN h0 s e k) := ((T.2.fr (q := false) (cs := [154]) (fs := []) (by decide)).I rfl).trans (Jw.v hs4 he hk).1
    have T1 := soH_t T s e k (wvN h0 s e k)
    have F1 := soH_f (s := s) (e := e) (k := k) (wv := wvN h0 s e k) F
    have Q1 := Q.fr (T1.2.fr (by decide))
    have hh : u.has (12 + j) := Or.inr (Or.inr ⟨by omega, by omega, by rw [Nat.add_sub_cancel_left]; exact z⟩)
    have ok := o.2.2.2.2.2 _ hh
    have hL := (Q1.2.2.2.2.2.1 _ hh).1
    have l1 := Q1.2.2.2.2.2.2.2.2 j hj
    rw [if_pos z] at l1
    obtain ⟨h2, S2, e2⟩ := s_wor (X := X) (d := d) T1.1 (Q1.2.2.2.2.2.1 _ hh) ok
    rw [wor_cg F1 ok] at e2
    refine ⟨h2, T1.pl S2, (soH_q F).pl S2, ?_⟩
    rw [if_pos z, if_pos z, if_neg (nI_pos (by omega)), gR_137_43 w, show (1 : Int32) = nI 1 from rfl, st_166 w (show 1 < 11 by decide), gR_137_43 (WF_uI w), show (3 : Int32) = nI 3 from rfl, st_166 (WF_uI w) (show 3 < 11 by decide), gR_137_43 (WF_uI (WF_uI w)), if_neg (by decide), show (4 : Int32) = nI 4 from rfl, st_166 (WF_uI (WF_uI w)) (show 4 < 11 by decide), gR_137_43 (WF_uI (WF_uI (WF_uI w))), show (5 : Int32) = nI 5 from rfl, st_166 (WF_uI (WF_uI (WF_uI w))) (show 5 < 11 by decide), gR_137_43 (WF_uI (WF_uI (WF_uI (WF_uI w)))), gR_137_22 (WF_uI (WF_uI (WF_uI (WF_uI w)))), show (100 : Int32) = nI 100 from rfl, show (24 : Int32) = nI 24 from rfl, pk_mul, nI_add, pk_mul, nI_add, ld_154 (WF_uI (WF_uI (WF_uI (WF_uI w)))) (by omega), uI_ne (by decide), uI_ne (by decide), uI_ne (by decide), uI_ne (by decide), hW', show (6 : Int32) = nI 6 from rfl, st_166 (WF_uI (WF_uI (WF_uI (WF_uI w)))) (show 6 < 11 by decide)]
    have fold : av_uI (av_uI (av_uI (av_uI (av_uI h 166 1 (nI s)) 166 3 (nI e)) 166 4 (nI e - nI e / 7 * 7)) 166 5 (nI k)) 166 6 (nI (wvN h0 s e k)) = soH h s e k (wvN h0 s e k) := rfl
    rw [fold, gR_137_36 T1.1, ld_165 T1.1 (by omega), l1, is_137 T1.1, e2, av_cI_r, Option.bind_some, mx0]
    split <;> rfl
  · refine ⟨h, T, F, ?_⟩
    rw [if_neg z, if_neg z, if_pos (by decide)]
    rfl
/-- the locals of the walk over hours -/
theorem w119_q {h0 : av_H} {u : Ru} (o : u.ok) (Q : u.Q h0) (Jw : J_wi h0) {t s fl e k pn H wo ag : Nat} {a b : Int32} (hs4 : s < 4) (he : e < 100) (hk : k + H ≤ 24) (hH : 1 ≤ H) : ∀ n j h, j + n = H → tQ h0 h → fQ h t fl pn H wo ag → ∃ h', tQ h0 h' ∧ fQ h' t fl pn H wo ag ∧ bd X (d + 3) 297 119 [(0, vr (some 137)), (1, vi (nI t)), (2, vi (nI s)), (4, vi (nI e)), (5, vi (nI k)), (6, vi a), (7, vi b), (10, vi (nI H)), (11, vi (nI (H + j)))] [] h = if anyN n (k + j) (fun k => u.qu (fct t s fl e k (wvN h0 s e k) pn H wo ag)) = true then av_rI 10 h' else bd X (d + 3) 297 119 [(0, vr (some 137)), (1, vi (nI t)), (2, vi (nI s)), (4, vi (nI e)), (5, vi (nI k)), (6, vi a), (7, vi b), (10, vi (nI H)), (11, vi (nI (H + H)))] [] h'
  | 0, j, h, hj, T, F => by
    obtain rfl : j = H := by omega
    exact ⟨h, T, F, by rw [anyN, if_neg (by decide)]⟩
  | n + 1, j, h, hj, T, F => by
    obtain ⟨h1, T1, F1, e1⟩ := s_so (X := X) (d := d) T o Q Jw (show 1 < 2 by decide) hs4 he (show k + j < 24 by omega) F
    rw [if_neg (by decide)] at e1
    have dv : (H + j) / H = 1 := by rw [Nat.add_div_left _ (by omega), Nat.div_eq_of_lt (by omega)]
    have h0' : ¬ nI H = 0 := nI_ne0 (by omega) (by omega)
    obtain ⟨h2, T2, F2, e2⟩ := w119_q o Q Jw (a := a) (b := b) hs4 he hk hH n (j + 1) h1 (by omega) T1 F1
    rw [anyN]
    cases q : u.qu (fct t s fl e (k + j) (wvN h0 s e (k + j)) pn H wo ag) with
    | false =>
      refine ⟨h2, T2, F2, ?_⟩
      rw [b_297_119, show (2 : Int32) = nI 2 from rfl, pk_mul, if_pos (nI_lt (by omega) (by omega)), if_neg h0', if_neg h0', is_137 T.1, pk_div (by omega) (by omega) (by omega), dv, pk_mul, pk_sub (by omega), show H + j - 1 * H = j by omega, nI_add, e1, av_cI_r, Option.bind_some, q, if_pos (show bI false = 0 from rfl), nI_1, Bool.false_or]
      exact e2
    | true =>
      refine ⟨h1, T1, F1, ?_⟩
      rw [b_297_119, show (2 : Int32) = nI 2 from rfl, pk_mul, if_pos (nI_lt (by omega) (by omega)), if_neg h0', if_neg h0', is_137 T.1, pk_div (by omega) (by omega) (by omega), dv, pk_mul, pk_sub (by omega), show H + j - 1 * H = j by omega, nI_add, e1, av_cI_r, Option.bind_some, q, if_neg (show ¬ bI true = 0 by decide), if_neg h0', Bool.true_or, if_pos rfl]
      rfl
theorem w119_s {h0 : av_H} {u : Ru} (o : u.ok) (Q : u.Q h0) (Jw : J_wi h0) {t s fl e k pn H wo ag : Nat} {a b : Int32} (hs4 : s < 4) (he : e < 100) (hk : k + H ≤ 24) (hH : 1 ≤ H) : ∀ n j h, j + n = H → tQ h0 h → fQ h t fl pn H wo ag → ∃ h', tQ h0 h' ∧ fQ h' t fl pn H wo ag ∧ bd X (d + 3) 297 119 [(0, vr (some 137)), (1, vi (nI t)), (2, vi (nI s)), (4, vi (nI e)), (5, vi (nI k)), (6, vi a), (7, vi b), (10, vi (nI H)), (11, vi (nI j))] [] h = if anyN n (k + j) (fun k => u.st (fct t s fl e k (wvN h0 s e k) pn H wo ag)) = true then av_rI 9 h' else bd X (d + 3) 297 119 [(0, vr (some 137)), (1, vi (nI t)), (2, vi (nI s)), (4, vi (nI e)), (5, vi (nI k)), (6, vi a), (7, vi b), (10, vi (nI H)), (11, vi (nI H))] [] h'
  | 0, j, h, hj, T, F => by
    obtain rfl : j = H := by omega
    exact ⟨h, T, F, by rw [anyN, if_neg (by decide)]⟩
  | n + 1, j, h, hj, T, F => by
    obtain ⟨h1, T1, F1, e1⟩ := s_so (X := X) (d := d) T o Q Jw (show 0 < 2 by decide) hs4 he (show k + j < 24 by omega) F
    rw [if_pos rfl] at e1
    have dv : j / H = 0 := Nat.div_eq_of_lt (by omega)
    have h0' : ¬ nI H = 0 := nI_ne0 (by omega) (by omega)
    obtain ⟨h2, T2, F2, e2⟩ := w119_s o Q Jw (a := a) (b := b) hs4 he hk hH n (j + 1) h1 (by omega) T1 F1
    rw [anyN]
    cases q : u.st (fct t s fl e (k + j) (wvN h0 s e (k + j)) pn H wo ag) with
    | false =>
      refine ⟨h2, T2, F2, ?_⟩
      rw [b_297_119, show (2 : Int32) = nI 2 from rfl, pk_mul, if_pos (nI_lt (by omega) (by omega)), if_neg h0', if_neg h0', is_137 T.1, pk_div (by omega) (by omega) (by omega), dv, pk_mul, pk_sub (by omega), show j - 0 * H = j by omega, nI_add, e1, av_cI_r, Option.bind_some, q, if_pos (show bI false = 0 from rfl), nI_1, Bool.false_or]
      exact e2
    | true =>
      refine ⟨h1, T1, F1, ?_⟩
      rw [b_297_119, show (2 : Int32) = nI 2 from rfl, pk_mul, if_pos (nI_lt (by omega) (by omega)), if_neg h0', if_neg h0', is_137 T.1, pk_div (by omega) (by omega) (by omega), dv, pk_mul, pk_sub (by omega), show j - 0 * H = j by omega, nI_add, e1, av_cI_r, Option.bind_some, q, if_neg (show ¬ bI true = 0 by decide), if_neg h0', Bool.true_or, if_pos rfl]
      rfl
end
