/-! the planner's pieces: class and reference -/
def wsN (n : Nat) (W : Nat → Nat) (D : Nat) : Nat := sN (fun k => if D.testBit k = true then W k else 0) n
theorem wsN_le {n : Nat} {p S W : Nat → Nat} (O : wnO n p S W) (D : Nat) : wsN n W D ≤ 792 := by
  have := sN_b (g := fun k => if D.testBit k = true then W k else 0) (B := 99) n (fun k hk => by
    have := (O.2.1 k hk).2.2
    split <;> omega)
  have h8 := O.1
  unfold wsN
  have : n * 99 ≤ 8 * 99 := Nat.mul_le_mul_right _ h8
  omega
/-- what lies outside the heap: the tens, the places of a row's digits -/
def XT (X : av_X) : Prop := (∃ f, X 1000001 = some (6, f) ∧ ∀ i, i < 6 → f i = nI (10 ^ i)) ∧ ∃ f, X 1000002 = some (5, f) ∧ ∀ i, i < 5 → f i = nI (5 ^ (4 - i))
theorem XT.len {X : av_X} (T : XT X) {h : av_H} (hL : h.1.length ≤ 1000000) : av_len X h (some 1000001) = some (nI 6) := by
  obtain ⟨⟨f, e, -⟩, -⟩ := T
  have z : h.1[1000001]? = none := List.getElem?_eq_none (by omega)
  simp only [av_len, z, e]
  rfl
theorem XT.ld {X : av_X} (T : XT X) {h : av_H} (hL : h.1.length ≤ 1000000) {i : Nat} (hi : i < 6) : av_lI X h (some 1000001) (nI i) = some (nI (10 ^ i)) := by
  obtain ⟨⟨f, e, v⟩, -⟩ := T
  have z : h.1[1000001]? = none := List.getElem?_eq_none (by omega)
  have c : (nI i).toNatClampNeg = i := nI_clamp (by omega)
  have a : av_at h (some 1000001) 100 (nI i) = false := by simp [av_at, z]
  simp only [av_lI, a, e, c]
  rw [if_neg (by decide), if_neg (show ¬ (nI i < 0 ∨ 6 ≤ i) from fun q => q.elim (nI_pos (by omega)) (fun y => by omega)), v i hi]
section
variable {X : av_X} {d : Nat} {h : av_H}
theorem dn_lp (w : WF h) {n c lf s : Nat} {p S W : Nat → Nat} (O : wnO n p S W) (C : wnC h n p S W) (hc : h.2.1 46 4 = nI c) (c8 : c ≤ 8) (l8 : lf < 256) (s4 : s < 4) : ∀ k i, i + k = n → bd X (d + 1) 47 6 [(0, vr (some 46)), (1, vi (nI lf)), (2, vi (nI s)), (3, vi (nI (tk p S lf s c i).1)), (4, vi (nI (tk p S lf s c i).2)), (5, vi (nI i))] [] h = av_rI (nI (dnM n p S c lf s)) h
  | 0, i, hi => by
    obtain rfl : i = n := by omega
    have n8 := O.1
    rw [b_47_6, gIv_46_0 w C.1, if_neg (nI_nlt (by omega) (by omega))]
    rfl
  | k + 1, i, hi => by
    have n8 := O.1
    have ih := dn_lp w O C hc c8 l8 s4 k (i + 1) (by omega)
    have pi := O.2.2.1 i (by omega)
    have t2 := tk_2 (p := p) (S := S) (lf := lf) (s := s) (c := c) i
    have st : ∀ m, (¬ (tk p S lf s c i).2 < c) → (tk p S lf s c (i + m)) = tk p S lf s c i := fun m q => by
      induction m with
      | zero => rfl
      | succ m ihm =>
        rw [show i + (m + 1) = (i + m) + 1 by omega, tk, ihm, decide_eq_false q, Bool.and_false, if_neg (by decide)]
    rw [tk] at ih
    rw [b_47_6, gIv_46_0 w C.1, if_pos (nI_lt (by omega) (by omega)), gI_46_4 w, hc]
    by_cases y : (tk p S lf s c i).2 < c
    · rw [decide_eq_true y, Bool.and_true] at ih
      rw [if_pos (nI_lt y (by omega)), gR_46_7 w, ld_49 w (by omega), C.2.2 i (by omega), gR_46_5 w, ld_47 w (by omega), (C.2.1 (p i) pi).1, nI_1, nI_1]
      have sl := (O.2.1 (p i) pi).1
      by_cases z : S (p i) = s
      · rw [el, decide_eq_true z, Bool.and_true] at ih
        rw [if_pos (congrArg nI z), c_hasBit' (by omega) (by omega)]
        cases u : lf.testBit (p i) with
        | false =>
          rw [u, if_neg (by decide)] at ih
          rw [if_pos (show bI false = 0 from rfl)]
          exact ih
        | true =>
          rw [u, if_pos rfl] at ih
          rw [if_neg (show ¬ bI true = 0 by decide), nb_sh1 (p i) (by omega), nb_or]
          exact ih
      · rw [el, decide_eq_false z, Bool.and_false, if_neg (by decide)] at ih
        rw [if_neg (fun q => z ((nI_eq (by omega) (by omega)).mp q))]
        exact ih
    · rw [if_neg (nI_nlt (by omega) (by omega)), dnM, show n = i + (n - i) by omega, st _ y]
theorem c_done (w : WF h) {n c lf s : Nat} {p S W : Nat → Nat} (O : wnO n p S W) (C : wnC h n p S W) (hc : h.2.1 46 4 = nI c) (c8 : c ≤ 8) (l8 : lf < 256) (s4 : s < 4) : ev X (d + 2) 47 [vr (some 46), vi (nI lf), vi (nI s)] h = av_rI (nI (dnM n p S c lf s)) h := by
  rw [e_47, b_47_0]
  exact dn_lp w O C hc c8 l8 s4 n 0 (by omega)
theorem wo_lp (w : WF h) {n D : Nat} {p S W : Nat → Nat} (O : wnO n p S W) (C : wnC h n p S W) (D8 : D < 256) : ∀ k i, i + k = n → bd X (d + 1) 48 4 [(0, vr (some 46)), (1, vi (nI D)), (2, vi (nI (sN (fun k => if D.testBit k = true then W k else 0) i))), (3, vi (nI i))] [] h = av_rI (nI (wsN n W D)) h
  | 0, i, hi => by
    obtain rfl : i = n := by omega
    have n8 := O.1
    rw [b_48_4, gIv_46_0 w C.1, if_neg (nI_nlt (by omega) (by omega))]
    rfl
  | k + 1, i, hi => by
    have n8 := O.1
    have ih := wo_lp w O C D8 k (i + 1) (by omega)
    rw [sN] at ih
    rw [b_48_4, gIv_46_0 w C.1, if_pos (nI_lt (by omega) (by omega)), c_hasBit' (by omega) (by omega), nI_1]
    cases z : D.testBit i with
    | false =>
      rw [z, if_neg (by decide), Nat.add_zero] at ih
      rw [if_pos (show bI false = 0 from rfl), add0I]
      exact ih
    | true =>
      rw [z, if_pos rfl] at ih
      rw [if_neg (show ¬ bI true = 0 by decide), gR_46_6 w, ld_48 w (by omega), (C.2.1 i (by omega)).2, nI_add]
      exact ih
theorem c_worth (w : WF h) {n D : Nat} {p S W : Nat → Nat} (O : wnO n p S W) (C : wnC h n p S W) (D8 : D < 256) : ev X (d + 2) 48 [vr (some 46), vi (nI D)] h = av_rI (nI (wsN n W D)) h := by
  rw [e_48, b_48_0]
  exact wo_lp w O C D8 n 0 (by omega)
theorem c_tens (T : XT X) (hL : h.1.length ≤ 1000000) {i : Nat} (hi : i < 6) : ev X (d + 2) 41 [vi (nI i)] h = av_rL (lN (10 ^ i)) h := by
  have p5 : (10 : Nat) ^ i ≤ 10 ^ 5 := Nat.pow_le_pow_right (by decide) (by omega)
  rw [e_41, b_41_0, T.len hL, Option.bind_some, c_below', toI_nI (by decide), show rg (nI i) 0 (((6 : Nat) : Int) - 1) = true from rg_lt2 (n := 5) (by omega) (by omega), if_neg (show ¬ bI true = 0 by decide), T.ld hL hi, Option.bind_some, nI_l (by omega)]
theorem c_ten (w : WF h) {e s c : Nat} (e5 : e < 5) (s4 : s < 4) (hc : h.2.1 50 (e * 4 + s) = nI c) : ev X (d + 2) 49 [vr (some 50), vi (nI e), vi (nI s)] h = av_rI (nI c) h := by
  rw [e_49, b_49_0, ln_50 w, show (4 : Int32) = nI 4 from rfl, pk_mul, nI_add, c_below', toI_nI (by decide), show rg (nI (e * 4 + s)) 0 (((20 : Nat) : Int) - 1) = true from rg_lt2 (n := 19) (by omega) (by omega), if_neg (show ¬ bI true = 0 by decide), ld_50 w (by omega), hc]
/-! the reference -/
theorem lb_in (w : WF h) {n lf s : Nat} {v4 : Int32} {p S W : Nat → Nat} (O : wnO n p S W) (R : wnR h n S W) (l8 : lf < 256) (s4 : s < 4) : ∀ k i, i + k = n → bd X (d + 1) 322 12 [(0, vr (some 137)), (2, vi (nI s)), (3, vi (nI lf)), (4, vi v4), (5, vi (oI (bsT S W lf s i))), (6, vi (nI i))] [] h = bd X (d + 1) 322 4 [(0, vr (some 137)), (2, vi (nI s)), (3, vi (nI (match bsT S W lf s n with | none => lf | some b => nd lf (2 ^ b)))), (4, vi (v4 + 1))] [] h
  | 0, i, hi => by
    obtain rfl : i = n := by omega
    have n8 := O.1
    rw [b_322_12, gIv_137_64 w R.1, if_neg (nI_nlt (by omega) (by omega))]
    cases e : bsT S W lf s i with
    | none => rw [if_pos (show oI none < 0 by decide), nb_and, Nat.and_self]
    | some b =>
      have bl := ((bsT_s (S := S) (W := W) (lf := lf) (s := s) i).2 b e).1
      rw [oI_s, if_neg (nI_pos (by omega)), nb_sh1 b (by omega), nb_andn]
  | k + 1, i, hi => by
    have n8 := O.1
    have ih := lb_in w (v4 := v4) O R l8 s4 k (i + 1) (by omega)
    have us := (bsT_s (S := S) (W := W) (lf := lf) (s := s) i).2
    rw [bsT] at ih
    have no : bd X (d + 1) 322 12 [(0, vr (some 137)), (2, vi (nI s)), (3, vi (nI lf)), (4, vi v4), (5, vi (oI (bsT S W lf s i))), (6, vi (nI (i + 1)))] [] h = bd X (d + 1) 322 4 [(0, vr (some 137)), (2, vi (nI s)), (3, vi (nI (match bsT S W lf s n with | none => lf | some b => nd lf (2 ^ b)))), (4, vi (v4 + 1))] [] h → bd X (d + 1) 322 31 [(0, vr (some 137)), (2, vi (nI s)), (3, vi (nI lf)), (4, vi v4), (5, vi (oI (bsT S W lf s i))), (6, vi (nI i))] [] h = bd X (d + 1) 322 4 [(0, vr (some 137)), (2, vi (nI s)), (3, vi (nI (match bsT S W lf s n with | none => lf | some b => nd lf (2 ^ b)))), (4, vi (v4 + 1))] [] h := fun ih => by
      rw [b_322_31, b_322_32, if_pos rfl, nI_1]
      exact ih
    have sl := (O.2.1 i (by omega)).1
    have wl := (O.2.1 i (by omega)).2.2
    rw [b_322_12, gIv_137_64 w R.1, if_pos (nI_lt (by omega) (by omega)), nb_bit (by omega) (by omega)]
    cases u : lf.testBit i with
    | false =>
      rw [el, u, Bool.false_and, Bool.false_and, if_neg (by decide)] at ih
      rw [if_neg (show ¬ bI false = 1 by decide)]
      exact no ih
    | true =>
      rw [if_pos (show bI true = 1 from rfl), gR_137_65 w, ld_186 w (by omega), (R.2 i (by omega)).1]
      by_cases z : S i = s
      · rw [el, u, Bool.true_and, decide_eq_true z, Bool.true_and] at ih
        rw [if_pos (congrArg nI z), b_322_32, if_neg (show ¬ (1 : Int32) = 0 by decide), nI_1]
        cases e : bsT S W lf s i with
        | none =>
          rw [e, bsO, if_pos rfl, oI_s] at ih
          rw [if_pos (show oI none < 0 by decide)]
          exact ih
        | some b =>
          have bl := (us b e).1
          have wb := (O.2.1 b (by omega)).2.2
          rw [e, bsO] at ih
          rw [oI_s, if_neg (nI_pos (by omega)), gR_137_66 w, ld_187 w (by omega), (R.2 i (by omega)).2, gR_137_66 w, ld_187 w (by omega), (R.2 b (by omega)).2]
          by_cases y : W b < W i
          · rw [if_pos (decide_eq_true y), oI_s] at ih
            rw [if_pos (nI_lt y (by omega))]
            exact ih
          · rw [if_neg (by rw [decide_eq_false y]; decide), oI_s] at ih
            rw [if_neg (nI_nlt (by omega) (by omega))]
            exact ih
      · rw [el, decide_eq_false z, Bool.and_false, Bool.false_and, if_neg (by decide)] at ih
        rw [if_neg (fun q => z ((nI_eq (by omega) (by omega)).mp q))]
        exact no ih
theorem lbN_lt {n lf s : Nat} {S W : Nat → Nat} (l8 : lf < 256) : ∀ j, lbN n S W lf s j < 256
  | 0 => l8
  | j + 1 => by
    have ih := lbN_lt (n := n) (s := s) (S := S) (W := W) l8 j
    rw [lbN]
    split
    · exact ih
    · exact nd_lt (n := 8) ih
theorem lb_lp (w : WF h) {n c lf s : Nat} {p S W : Nat → Nat} (O : wnO n p S W) (R : wnR h n S W) (hc : h.2.1 137 68 = nI c) (c8 : c ≤ 8) (l8 : lf < 256) (s4 : s < 4) : ∀ k j, j + k = c → bd X (d + 1) 322 4 [(0, vr (some 137)), (2, vi (nI s)), (3, vi (nI (lbN n S W lf s j))), (4, vi (nI j))] [] h = av_rI (nI (lbN n S W lf s c)) h
  | 0, j, hj => by
    obtain rfl : j = c := by omega
    rw [b_322_4, gI_137_68 w, hc, if_neg (nI_nlt (by omega) (by omega))]
  | k + 1, j, hj => by
    have ih := lb_lp w O R hc c8 l8 s4 k (j + 1) (by omega)
    have li := lb_in (X := X) (d := d) (v4 := nI j) w O R (lbN_lt (n := n) (s := s) (S := S) (W := W) l8 j) s4 n 0 (by omega)
    rw [nI_1] at li
    rw [lbN] at ih
    rw [b_322_4, gI_137_68 w, hc, if_pos (nI_lt (by omega) (by omega))]
    exact li.trans ih
theorem s_behind (w : WF h) {n c lf s : Nat} {p S W : Nat → Nat} (O : wnO n p S W) (R : wnR h n S W) (hc : h.2.1 137 68 = nI c) (c8 : c ≤ 8) (l8 : lf < 256) (s4 : s < 4) : ev X (d + 2) 322 [vr (some 137), vi (nI lf), vi (nI s)] h = av_rI (nI (nd lf (dnM n p S c lf s))) h := by
  rw [← lb_dn O, e_322, b_322_0]
  exact lb_lp w O R hc c8 l8 s4 c 0 (by omega)
theorem sw_lp (w : WF h) {n D : Nat} {p S W : Nat → Nat} (O : wnO n p S W) (R : wnR h n S W) (D8 : D < 256) : ∀ k i, i + k = n → bd X (d + 1) 323 4 [(0, vr (some 137)), (1, vi (nI D)), (2, vl (lN (sN (fun k => if D.testBit k = true then W k else 0) i))), (4, vi (nI i))] [] h = av_rL (lN (wsN n W D)) h
  | 0, i, hi => by
    obtain rfl : i = n := by omega
    have n8 := O.1
    rw [b_323_4, gIv_137_64 w R.1, if_neg (nI_nlt (by omega) (by omega))]
    rfl
  | k + 1, i, hi => by
    have n8 := O.1
    have ih := sw_lp w O R D8 k (i + 1) (by omega)
    have wl := (O.2.1 i (by omega)).2.2
    rw [sN] at ih
    rw [b_323_4, gIv_137_64 w R.1, if_pos (nI_lt (by omega) (by omega)), nb_bit (by omega) (by omega), nI_1]
    cases z : D.testBit i with
    | false =>
      rw [z, if_neg (by decide)] at ih
      rw [if_neg (show ¬ bI false = 1 by decide), show (0 : Int64) = lN 0 from rfl, lN_add]
      exact ih
    | true =>
      rw [z, if_pos rfl] at ih
      rw [if_pos (show bI true = 1 from rfl), gR_137_66 w, ld_187 w (by omega), (R.2 i (by omega)).2, nI_l (by omega), lN_add]
      exact ih
theorem s_worth (w : WF h) {n D : Nat} {p S W : Nat → Nat} (O : wnO n p S W) (R : wnR h n S W) (D8 : D < 256) : ev X (d + 2) 323 [vr (some 137), vi (nI D)] h = av_rL (lN (wsN n W D)) h := by
  rw [e_323, b_323_0]
  exact sw_lp w O R D8 n 0 (by omega)
theorem st_lp {i : Nat} (hi : i < 6) : ∀ k j, j + k = i → bd X (d + 1) 324 4 [(0, vi (nI i)), (1, vl (lN (10 ^ j))), (3, vi (nI j))] [] h = av_rL (lN (10 ^ i)) h
  | 0, j, hj => by
    obtain rfl : j = i := by omega
    rw [b_324_4, if_neg (nI_nlt (by omega) (by omega))]
  | k + 1, j, hj => by
    have ih := st_lp hi k (j + 1) (by omega)
    rw [Nat.pow_succ] at ih
    rw [b_324_4, if_pos (nI_lt (by omega) (by omega)), show (10 : Int64) = lN 10 from rfl, lN_mul, nI_1]
    exact ih
theorem s_tens {i : Nat} (hi : i < 6) : ev X (d + 2) 324 [vi (nI i)] h = av_rL (lN (10 ^ i)) h := by
  rw [e_324, b_324_0]
  exact st_lp hi i 0 (by omega)
end
