/-! reason -/
def nsB (h : av_H) (m : Nat) (q : Nat → Nat) (P e : Nat) : Bool := anyN m 0 (neP h q P (nI e))
theorem ltB_x {D : Nat → Nat → Nat} {M : Nat → Nat} {F b t s f c : Nat} {x x' y : Int32} : ∀ n, (∀ i, i < n → rg (nI (D i 4)) x.toInt y.toInt = rg (nI (D i 4)) x'.toInt y.toInt) → ltB D M F b t s f c x y n = ltB D M F b t s f c x' y n
  | 0, _ => rfl
  | n + 1, e => by
    rw [ltB, ltB, e n (by omega), ltB_x n (fun i hi => e i (by omega))]
theorem sub1 (a b : Int32) : a - b + 1 = a + 1 - b := by
  rw [Int32.sub_eq_add_neg, Int32.sub_eq_add_neg, Int32.add_assoc, Int32.add_comm (-b) 1, ← Int32.add_assoc]
theorem fst_e {e p : Nat} (he : e < 100) (hp : p < 100) : (if (0 : Int32) < nI e - nI p + 1 then nI e - nI p + 1 else 0) = nI (e + 1 - p) := by
  rw [sub1, nI_1]
  exact nI_m0 (by omega) (by omega)
theorem fst_r {e p : Nat} (he : e < 100) (hp : p < 100) : (if nI e - nI p + 1 < 0 then (0 : Int32) else nI e - nI p + 1) = nI (e + 1 - p) := by
  rw [sub1, nI_1]
  by_cases q : p ≤ e + 1
  · rw [pk_sub q, if_neg (nI_pos (by omega))]
  · rw [if_pos, show e + 1 - p = 0 by omega]
    · rfl
    · rw [i_lt, pk_sub_toInt (by omega) (by omega), tI_0]
      omega
theorem fst_rg {e p k : Nat} (he : e < 100) (hp : p < 100) (hk : k < 100) : rg (nI k) (nI (e + 1 - p)).toInt (nI e).toInt = rg (nI k) (nI e - nI p + 1).toInt (nI e).toInt := by
  rw [sub1, nI_1, rg, rg, pk_sub_toInt (by omega) (by omega), toI_nI (by omega), toI_nI (by omega), toI_nI (by omega)]
  apply decide_eq_decide.mpr
  omega
section
variable {X : av_X} {d : Nat} {h : av_H}
theorem c_nestAt {h0 : av_H} (T : tC h0 h) {m : Nat} {q : Nat → Nat} (Nb : neB m q) (Nc : neC h0 m q) (Nd : neD h0 h0 m) {t s f c : Nat} (h6 : t < 6) (hs : s < 4) (hf : f < 12) (hc : c < 10) (e : Nat) : ev X (d + 3) 113 [vr (some 3), vi (nI (((t * 4 + s) * 10 + c) * 12 + f)), vi (nI e), vi 0] h = av_rI (bI (nsB h0 m q (((4 * t + s) * 12 + f) * 10 + c) e)) h := by
  have A := T.2.fr (q := false) (cs := [3, 4, 5, 6, 7, 8]) (fs := []) (by decide)
  rw [cov_3 T.1 ((A.I rfl).trans Nc.1) Nb.1, nsB]
  congr 2
  refine anyN_cg _ _ (fun i _ hi => ?_)
  obtain ⟨e1, e2, e3⟩ := Nc.2 i (by omega)
  obtain ⟨e4, e5⟩ := Nd i (by omega)
  have hq := Nb.2 i (by omega)
  rw [spP_3, neP, A.I (show FP false [3, 4, 5, 6, 7, 8] [] 4 i = true from rfl), A.I (show FP false [3, 4, 5, 6, 7, 8] [] 5 i = true from rfl), A.I (show FP false [3, 4, 5, 6, 7, 8] [] 6 i = true from rfl), A.I (show FP false [3, 4, 5, 6, 7, 8] [] 7 i = true from rfl), A.I (show FP false [3, 4, 5, 6, 7, 8] [] 8 i = true from rfl), e1, e2, e3, e4, e5, show rg 0 (0 : Int32).toInt (nI 23).toInt = true by decide, Bool.and_true]
  congr 1
  apply decide_eq_decide.mpr
  have y : q i / 120 = q i / 10 / 12 := by rw [Nat.div_div_eq_div_mul]
  rw [nI_eq (by omega) (by omega), y]
  generalize hg : q i = g at hq ⊢
  constructor
  · intro z
    have z1 : g / 10 % 12 = f := by omega
    have z2 : g / 10 / 12 * 10 + g % 10 = (t * 4 + s) * 10 + c := by omega
    have z3 : g % 10 = c := by omega
    omega
  · intro z
    subst z
    have z1 : (((4 * t + s) * 12 + f) * 10 + c) / 10 = (4 * t + s) * 12 + f := by omega
    rw [z1]
    omega
theorem s_nestAt {h0 : av_H} (T : tQ h0 h) {m : Nat} {q : Nat → Nat} (Nb : neB m q) (Nq : neQ h0 m q) {P : Nat} (hP : P < 2880) (e : Nat) : ev X (d + 2) 272 [vr (some 137), vi (nI P), vi (nI e)] h = av_rI (bI (nsB h0 m q P e)) h := by
  have A := T.2.fr (q := false) (cs := [137, 151, 152, 153]) (fs := []) (by decide)
  have Nq' : neQ h m q := ⟨(A.I rfl).trans Nq.1, fun i hi => (A.I rfl).trans (Nq.2 i hi)⟩
  rw [s_hasN T.1 Nb Nq' hP, nsB]
  congr 2
  refine anyN_cg _ _ (fun i _ hi => ?_)
  rw [neP, neP, A.I (show FP false [137, 151, 152, 153] [] 152 i = true from rfl), A.I (show FP false [137, 151, 152, 153] [] 153 i = true from rfl)]
theorem nt_lp {h0 : av_H} (T : tC h0 h) {m : Nat} {q : Nat → Nat} (Nb : neB m q) (Nc : neC h0 m q) (Nd : neD h0 h0 m) {t s f c e : Nat} (h6 : t < 6) (hs : s < 4) (hf : f < 12) (hc : c < 10) (he : e < 100) : ∀ n k, k + n = e + 1 → bd X (d + 3) 222 2 [(0, vr (some 0)), (1, vi (nI (((t * 4 + s) * 10 + c) * 12 + f))), (3, vi (nI e)), (4, vi (nI k))] [] h = av_rI (bI (!anyN n k (fun e => !nsB h0 m q (((4 * t + s) * 12 + f) * 10 + c) e))) h
  | 0, k, hk => by
    rw [b_222_2, if_pos (nI_lt (by omega) (by omega))]
    rfl
  | n + 1, k, hk => by
    have ih := nt_lp T Nb Nc Nd (e := e) h6 hs hf hc he n (k + 1) (by omega)
    rw [b_222_2, if_neg (nI_nlt (by omega) (by omega)), gR_0_2 T.1, is_3 T.1, c_nestAt T Nb Nc Nd h6 hs hf hc k, av_cI_r, Option.bind_some, nI_1, anyN]
    cases nsB h0 m q (((4 * t + s) * 12 + f) * 10 + c) k with
    | false =>
      rw [if_pos (show bI false = 0 from rfl), Bool.not_false, Bool.true_or]
      rfl
    | true =>
      rw [if_neg (show ¬ bI true = 0 by decide), Bool.not_true, Bool.false_or]
      exact ih
/-- a day on which the pane could have been washed -/
def wkB (h : av_H) (m : Nat) (q : Nat → Nat) (P : Nat) (u : Ru) (ml t s F V e : Nat) : Bool := !nsB h m q P e && anyN 24 0 (whB h u ml t s F e V)
theorem wk_lp {h0 : av_H} {u : Ru} (o : u.ok) (C : u.C h0) (Jw : J_wi h0) {ml : Nat} (Jl : lvJ h0 ml) {m : Nat} {q : Nat → Nat} (Nb : neB m q) (Nc : neC h0 m q) (Nd : neD h0 h0 m) {t s f c e a F V : Nat} (W : tw0 h0 t a F V) (hs : s < 4) (hf : f < 12) (hc : c < 10) (he : e < 100) : ∀ n k h, k + n = e + 1 → tC h0 h → ∃ h', tC h0 h' ∧ bd X (d + 4) 223 6 [(0, vr (some 0)), (1, vi (nI (((t * 4 + s) * 10 + c) * 12 + f))), (3, vi (nI e)), (4, vi (nI (t * 4 + s))), (5, vi (nI k))] [] h = av_rI (bI (anyN n k (wkB h0 m q (((4 * t + s) * 12 + f) * 10 + c) u ml t s F V))) h'
  | 0, k, h, hk, T => by
    refine ⟨h, T, ?_⟩
    rw [b_223_6, if_pos (nI_lt (by omega) (by omega))]
    rfl
  | n + 1, k, h, hk, T => by
    have h6 := W.1
    have ih := wk_lp o C Jw Jl Nb Nc Nd (f := f) (c := c) (e := e) W hs hf hc he n (k + 1)
    rw [b_223_6, if_neg (nI_nlt (by omega) (by omega)), gR_0_2 T.1, is_3 T.1, c_nestAt T Nb Nc Nd h6 hs hf hc k, av_cI_r, Option.bind_some, nI_1, anyN, wkB]
    cases nsB h0 m q (((4 * t + s) * 12 + f) * 10 + c) k with
    | true =>
      rw [if_neg (show ¬ bI true = 0 by decide), Bool.not_true, Bool.false_and, Bool.false_or]
      exact ih h (by omega) T
    | false =>
      obtain ⟨h1, T1, e1⟩ := c_hasW (X := X) (d := d) T o C Jw Jl W hs (show k < 100 by omega)
      rw [if_pos (show bI false = 0 from rfl), if_neg (by decide), if_neg (by decide), is_0 T.1, show (4 : Int32) = nI 4 from rfl, pk_div (by omega) (by omega) (by omega), pk_mul, pk_sub (by omega), show (t * 4 + s) / 4 = t by omega, show t * 4 + s - t * 4 = s by omega, e1, av_cI_r, Option.bind_some, Bool.not_false, Bool.true_and]
      cases anyN 24 0 (whB h0 u ml t s F k V) with
      | false =>
        rw [if_pos (show bI false = 0 from rfl), Bool.false_or]
        exact ih h1 (by omega) T1
      | true =>
        rw [if_neg (show ¬ bI true = 0 by decide), Bool.true_or]
        exact ⟨h1, T1, rfl⟩
theorem wk_s {h0 : av_H} {u : Ru} (o : u.ok) (Q : u.Q h0) (Jw : J_wi h0) {ml : Nat} (Jl : lvJ h0 ml) {m : Nat} {q : Nat → Nat} (Nb : neB m q) (Nq : neQ h0 m q) {t s e F V P : Nat} (h6 : t < 6) (hs : s < 4) (hP : P < 2880) (he : e < 100) (hF : h0.2.1 143 t = nI F) (hV : h0.2.1 150 t = nI V) : ∀ n k h (v8 v9 : Bool), k + n = e + 1 → tQ h0 h → ∃ h', tQ h0 h' ∧ bd X (d + 5) 313 68 [(0, vr (some 137)), (1, vi (nI t)), (2, vi (nI s)), (5, vi (nI e)), (7, vi (nI P)), (8, vi (bI v8)), (9, vi (bI v9)), (10, vi (nI k))] [] h = av_rI (if (v8 || anyN n k (fun e => !nsB h0 m q P e)) = false then 3 else if (v9 || anyN n k (wkB h0 m q P u ml t s F V)) = false then 4 else 5) h'
  | 0, k, h, v8, v9, hk, T => by
    refine ⟨h, T, ?_⟩
    rw [b_313_68, if_pos (nI_lt (by omega) (by omega)), anyN, anyN]
    cases v8 <;> cases v9 <;> rfl
  | n + 1, k, h, v8, v9, hk, T => by
    have ih := wk_s o Q Jw Jl Nb Nq (e := e) h6 hs hP he hF hV n (k + 1)
    have k87 : ∀ v8' v11 : Bool, ∃ h', tQ h0 h' ∧ bd X (d + 5) 313 87 [(0, vr (some 137)), (1, vi (nI t)), (2, vi (nI s)), (5, vi (nI e)), (7, vi (nI P)), (9, vi (bI v9)), (10, vi (nI k)), (11, vi (bI v11))] [vi (bI v8')] h = av_rI (if (v8' || anyN n (k + 1) (fun e => !nsB h0 m q P e)) = false then 3 else if (v9 || ((v11 && anyN 24 0 (whB h0 u ml t s F k V)) || anyN n (k + 1) (wkB h0 m q P u ml t s F V))) = false then 4 else 5) h' := fun v8' v11 => by
      rw [b_313_87, nI_1]
      cases v9 with
      | true =>
        rw [if_neg (show ¬ bI true = 0 by decide), Bool.true_or]
        have z := ih h v8' true (by omega) T
        rw [Bool.true_or] at z
        exact z
      | false =>
        rw [if_pos (show bI false = 0 from rfl), Bool.false_or]
        cases v11 with
        | false =>
          rw [if_pos (show bI false = 0 from rfl), Bool.false_and, Bool.false_or]
          have z := ih h v8' false (by omega) T
          rw [Bool.false_or] at z
          exact z
        | true =>
          obtain ⟨h1, T1, e1⟩ := s_hasH (X := X) (d := d) T o Q Jw Jl h6 hs (show k < 100 by omega) hF hV
          rw [if_neg (show ¬ bI true = 0 by decide), is_137 T.1, e1, av_cI_r, Option.bind_some, Bool.true_and]
          cases anyN 24 0 (whB h0 u ml t s F k V) with
          | false =>
            rw [if_pos (show bI false = 0 from rfl)]
            exact ih h1 v8' false (by omega) T1
          | true =>
            rw [if_neg (show ¬ bI true = 0 by decide)]
            exact ih h1 v8' true (by omega) T1
    have k79 : ∀ v11 : Bool, ∃ h', tQ h0 h' ∧ bd X (d + 5) 313 79 [(0, vr (some 137)), (1, vi (nI t)), (2, vi (nI s)), (5, vi (nI e)), (7, vi (nI P)), (8, vi (bI v8)), (9, vi (bI v9)), (10, vi (nI k))] [vi (bI v11)] h = av_rI (if ((v8 || v11) || anyN n (k + 1) (fun e => !nsB h0 m q P e)) = false then 3 else if (v9 || ((v11 && anyN 24 0 (whB h0 u ml t s F k V)) || anyN n (k + 1) (wkB h0 m q P u ml t s F V))) = false then 4 else 5) h' := fun v11 => by
      have z := k87 (v8 || v11) v11
      rw [b_313_79]
      cases v8 with
      | false =>
        rw [if_pos (show bI false = 0 from rfl)]
        cases v11 with
        | false =>
          rw [if_pos (show bI false = 0 from rfl)]
          exact z
        | true =>
          rw [if_neg (show ¬ bI true = 0 by decide), b_313_84]
          exact z
      | true =>
        rw [if_neg (show ¬ bI true = 0 by decide), b_313_84]
        exact z
    rw [b_313_68, if_neg (nI_nlt (by omega) (by omega)), is_137 T.1, s_nestAt T Nb Nq hP k, av_cI_r, Option.bind_some, anyN, anyN, wkB, ← Bool.or_assoc]
    have z := k79 (!nsB h0 m q P k)
    cases qn : nsB h0 m q P k with
    | false =>
      rw [qn] at z
      rw [if_pos (show bI false = 0 from rfl)]
      exact z
    | true =>
      rw [qn] at z
      rw [if_neg (show ¬ bI true = 0 by decide)]
      exact z
end
