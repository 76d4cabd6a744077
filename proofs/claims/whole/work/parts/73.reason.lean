/-! reason: an hour that could be worked -/
def whB (h : av_H) (u : Ru) (m t s F e V k : Nat) : Bool := lvB h m (nI t) (nI e) (nI k) && (!u.st (fct t s F e k (wvN h s e k) 0 1 V 0) && !u.qu (fct t s F e k (wvN h s e k) 0 1 V 0))
section
variable {X : av_X} {d : Nat} {h : av_H}
theorem wh_c {h0 : av_H} {u : Ru} (o : u.ok) (C : u.C h0) (Jw : J_wi h0) {m : Nat} (Jl : lvJ h0 m) {t s F e V : Nat} (hs4 : s < 4) (he : e < 100) : ∀ n k h, k + n = 24 → tC h0 h → fB h t s F e 0 1 V 0 → ∃ h', tC h0 h' ∧ bd X (d + 3) 224 7 [(0, vr (some 0)), (1, vi (nI t)), (2, vi (nI s)), (3, vi (nI e)), (4, vi (nI k))] [] h = av_rI (bI (anyN n k (whB h0 u m t s F e V))) h'
  | 0, k, h, hk, T, _ => by
    obtain rfl : k = 24 := by omega
    refine ⟨h, T, ?_⟩
    rw [b_224_7, if_neg (by decide)]
    rfl
  | n + 1, k, h, hk, T, fb => by
    have w := T.1
    rw [b_224_7, if_pos (show nI k < (24 : Int32) from nI_lt (b := 24) (by omega) (by omega)), gR_0_3 w, is_9 w, c_lv T Jl, av_cI_r, Option.bind_some, nI_1, anyN, whB]
    have ih := wh_c o C Jw Jl (t := t) (s := s) (F := F) (e := e) (V := V) hs4 he n (k + 1)
    cases q1 : lvB h0 m (nI t) (nI e) (nI k) with
    | false =>
      rw [if_pos (show bI false = 0 from rfl), Bool.false_and, Bool.false_or]
      exact ih h (by omega) T fb
    | true =>
      obtain ⟨h1, T1, F1, e1⟩ := c_hour (X := X) (d := d) T Jw hs4 he (show k < 24 by omega) fb
      obtain ⟨h2, S2, e2⟩ := c_stopping (X := X) (d := d) T1.1 o (C.fr o (T1.2.fr (by decide)))
      have T2 := T1.st o S2
      have F2' : ∀ j, j < 11 → h2.2.1 64 j = fct t s F e k (wvN h0 s e k) 0 1 V 0 j := fun j hj => by rw [S2.ne (by rcases o.1 with z | z <;> rw [z] <;> decide)]; exact F1 j hj
      have F2 : fB h2 t s F e 0 1 V 0 := fB.fct F2'
      obtain ⟨h3, S3, e3⟩ := c_quieting (X := X) (d := d) T2.1 o (C.fr o (T2.2.fr (by decide)))
      have F3 : fB h3 t s F e 0 1 V 0 := fB.fct (fun j hj => by rw [S3.ne (by rcases o.1 with z | z <;> rw [z] <;> decide)]; exact F2' j hj)
      rw [u.st_cg o F1] at e2
      rw [u.qu_cg o F2'] at e3
      rw [if_neg (show ¬ bI true = 0 by decide), is_0 w, e1, av_cV_r, Option.bind_some, g015 T1.1 (C.fr o (T1.2.fr (by decide))), gR_0_12 T1.1, is_R o T1.1, e2, av_cI_r, Option.bind_some, Bool.true_and]
      cases q2 : u.st (fct t s F e k (wvN h0 s e k) 0 1 V 0) with
      | true =>
        rw [if_neg (show ¬ bI true = 0 by decide), Bool.not_true, Bool.false_and, Bool.false_or]
        exact ih h2 (by omega) T2 F2
      | false =>
        rw [if_pos (show bI false = 0 from rfl), g015 T2.1 (C.fr o (T2.2.fr (by decide))), gR_0_12 T2.1, is_R o T2.1, e3, av_cI_r, Option.bind_some, Bool.not_false, Bool.true_and]
        cases q3 : u.qu (fct t s F e k (wvN h0 s e k) 0 1 V 0) with
        | true =>
          rw [if_neg (show ¬ bI true = 0 by decide), Bool.not_true, Bool.false_or]
          exact ih h3 (by omega) (T2.st o S3) F3
        | false =>
          rw [if_pos (show bI false = 0 from rfl), Bool.not_false, Bool.true_or]
          exact ⟨h3, T2.st o S3, rfl⟩
theorem c_hasW {h0 : av_H} (T : tC h0 h) {u : Ru} (o : u.ok) (C : u.C h0) (Jw : J_wi h0) {m : Nat} (Jl : lvJ h0 m) {t s F e V a : Nat} (W : tw0 h0 t a F V) (hs4 : s < 4) (he : e < 100) : ∃ h', tC h0 h' ∧ ev X (d + 4) 224 [vr (some 0), vi (nI t), vi (nI s), vi (nI e)] h = av_rI (bI (anyN 24 0 (whB h0 u m t s F e V))) h' := by
  obtain ⟨h1, T1, F1, e1⟩ := c_empty (X := X) (d := d + 1) (s := s) (e := e) T W
  obtain ⟨h2, T2, e2⟩ := wh_c (X := X) (d := d) o C Jw Jl hs4 he 24 0 h1 (by omega) T1 F1
  refine ⟨h2, T2, ?_⟩
  rw [e_224, b_224_0, is_0 T.1, e1, av_cV_r, Option.bind_some]
  exact e2
theorem wh_s {h0 : av_H} {u : Ru} (o : u.ok) (Q : u.Q h0) (Jw : J_wi h0) {m : Nat} (Jl : lvJ h0 m) {t s F e V : Nat} (h6 : t < 6) (hs4 : s < 4) (he : e < 100) (hF : h0.2.1 143 t = nI F) (hV : h0.2.1 150 t = nI V) : ∀ n k h (b : Bool), k + n = 24 → tQ h0 h → ∃ h', tQ h0 h' ∧ bd X (d + 4) 312 4 [(0, vr (some 137)), (1, vi (nI t)), (2, vi (nI s)), (3, vi (nI e)), (4, vi (bI b)), (5, vi (nI k))] [] h = av_rI (bI (b || anyN n k (whB h0 u m t s F e V))) h'
  | 0, k, h, b, hk, T => by
    obtain rfl : k = 24 := by omega
    refine ⟨h, T, ?_⟩
    rw [b_312_4, if_neg (by decide), zb_b, anyN, Bool.or_false]
  | n + 1, k, h, true, hk, T => by
    refine ⟨h, T, ?_⟩
    rw [b_312_4, if_pos (show nI k < (24 : Int32) from nI_lt (b := 24) (by omega) (by omega)), if_neg (show ¬ bI true = 0 by decide), zb_b, Bool.true_or]
  | n + 1, k, h, false, hk, T => by
    have w := T.1
    rw [b_312_4, if_pos (show nI k < (24 : Int32) from nI_lt (b := 24) (by omega) (by omega)), if_pos (show bI false = 0 from rfl), is_137 w, s_lv T Jl, av_cI_r, Option.bind_some, nI_1, anyN, whB]
    have ih := wh_s o Q Jw Jl (t := t) (s := s) (F := F) (e := e) (V := V) h6 hs4 he hF hV n (k + 1)
    cases q1 : lvB h0 m (nI t) (nI e) (nI k) with
    | false =>
      rw [if_pos (show bI false = 0 from rfl), Bool.false_and, Bool.false_or]
      have z := ih h false (by omega) T
      rw [Bool.false_or] at z
      exact z
    | true =>
      obtain ⟨h2, T2, e2⟩ := s_barred (X := X) (d := d) T o Q Jw (show 0 < 2 by decide) h6 hs4 he (show k < 24 by omega) hF hV
      rw [if_pos rfl] at e2
      obtain ⟨h3, T3, e3⟩ := s_barred (X := X) (d := d) T2 o Q Jw (show 1 < 2 by decide) h6 hs4 he (show k < 24 by omega) hF hV
      rw [if_neg (by decide)] at e3
      rw [if_neg (show ¬ bI true = 0 by decide), is_137 w, show (0 : Int32) = nI 0 from rfl, e2, av_cI_r, Option.bind_some, Bool.true_and]
      cases q2 : u.st (fct t s F e k (wvN h0 s e k) 0 1 V 0) with
      | true =>
        rw [if_neg (show ¬ bI true = nI 0 by decide), Bool.not_true, Bool.false_and, Bool.false_or]
        have z := ih h2 false (by omega) T2
        rw [Bool.false_or] at z
        exact z
      | false =>
        rw [if_pos (show bI false = nI 0 from rfl), is_137 T2.1, show (1 : Int32) = nI 1 from rfl, e3, av_cI_r, Option.bind_some, Bool.not_false, Bool.true_and]
        cases q3 : u.qu (fct t s F e k (wvN h0 s e k) 0 1 V 0) with
        | true =>
          rw [if_neg (show ¬ bI true = nI 0 by decide), Bool.not_true, Bool.false_or]
          have z := ih h3 false (by omega) T3
          rw [Bool.false_or] at z
          exact z
        | false =>
          rw [if_pos (show bI false = nI 0 from rfl), Bool.not_false, Bool.true_or]
          have z := ih h3 true (by omega) T3
          rw [Bool.true_or] at z
          exact z
theorem s_hasH {h0 : av_H} (T : tQ h0 h) {u : Ru} (o : u.ok) (Q : u.Q h0) (Jw : J_wi h0) {m : Nat} (Jl : lvJ h0 m) {t s F e V : Nat} (h6 : t < 6) (hs4 : s < 4) (he : e < 100) (hF : h0.2.1 143 t = nI F) (hV : h0.2.1 150 t = nI V) : ∃ h', tQ h0 h' ∧ ev X (d + 5) 312 [vr (some 137), vi (nI t), vi (nI s), vi (nI e)] h = av_rI (bI (anyN 24 0 (whB h0 u m t s F e V))) h' := by
  obtain ⟨h2, T2, e2⟩ := wh_s (X := X) (d := d) o Q Jw Jl h6 hs4 he hF hV 24 0 h false (by omega) T
  refine ⟨h2, T2, ?_⟩
  rw [e_312, b_312_0]
  rw [Bool.false_or] at e2
  exact e2
end
