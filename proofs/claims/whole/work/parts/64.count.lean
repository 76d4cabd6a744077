/-! count -/
/-- the set of those below n that have a property -/
def msk (p : Nat → Bool) : Nat → Nat
  | 0 => 0
  | n + 1 => if p n = true then msk p n ||| 2 ^ n else msk p n
theorem msk_bit {p : Nat → Bool} {j : Nat} : ∀ n, (msk p n).testBit j = (decide (j < n) && p j)
  | 0 => by simp [msk]
  | n + 1 => by
    have key : (decide (j < n + 1) && p j) = ((decide (j < n) && p j) || (decide (n = j) && p n)) := by
      by_cases z : n = j
      · subst z
        simp
      · rw [decide_eq_false z, Bool.false_and, Bool.or_false]
        congr 1
        exact decide_eq_decide.mpr (by omega)
    rw [key, ← msk_bit n, msk]
    cases q : p n with
    | false => rw [if_neg (by decide), Bool.and_false, Bool.or_false]
    | true => rw [if_pos rfl, Nat.testBit_or, Nat.testBit_two_pow, Bool.and_true]
theorem msk_lt {p : Nat → Bool} : ∀ n, msk p n < 2 ^ n
  | 0 => by simp [msk]
  | n + 1 => by
    have h1 := msk_lt (p := p) n
    have h2 : (2 : Nat) ^ n < 2 ^ (n + 1) := Nat.pow_lt_pow_right (by decide) (by omega)
    rw [msk]
    split
    · exact Nat.or_lt_two_pow (by omega) h2
    · omega
theorem msk_ct {p : Nat → Bool} {n : Nat} (hn : n ≤ 64) : bct (msk p n) = fb_ct p n := by
  rw [bct, ct_big (msk_lt n) hn]
  exact fb_ct_cong fun k hk => by rw [msk_bit, decide_eq_true hk, Bool.true_and]
theorem or0I (x : Nat) : nI x ||| (0 : Int32) = nI x := by
  show nI x ||| nI 0 = _
  rw [nb_or, Nat.or_zero]
theorem ct_chunk (q : Nat → Bool) (k : Nat) : ∀ n, fb_ct q (k * n) = fb_sm (fun t => fb_ct (fun j => q (k * t + j)) k) n
  | 0 => rfl
  | n + 1 => by rw [Nat.mul_succ, fb_ct_split, ct_chunk q k n, fb_sm_succ]
theorem sm_chunk (q : Nat → Nat) (k : Nat) : ∀ n, fb_sm q (k * n) = fb_sm (fun t => fb_sm (fun j => q (k * t + j)) k) n
  | 0 => rfl
  | n + 1 => by rw [Nat.mul_succ, fb_sm_split, sm_chunk q k n, fb_sm_succ]
theorem told_iff {h : av_H} (J : J_tow h) {t : Nat} (ht : t < 6) : (h.2.2.2 1 t).isSome = told h (nI t) := by
  cases q : told h (nI t) with
  | false => rw [(told_no J ht q).1]; rfl
  | true =>
    obtain ⟨u, a, h6, e, hj, -⟩ := told_ex J q
    obtain rfl : t = u := (nI_eq (by omega) (by omega)).mp e
    rw [hj]
    rfl
section
variable {X : av_X} {d : Nat} {h : av_H}
theorem told_lp (w : WF h) : ∀ n t, t + n = 6 → bd X d 196 4 [(0, vr (some 0)), (1, vi (nI (msk (fun t => (h.2.2.2 1 t).isSome) t))), (2, vi (nI t))] [] h = av_rI (nI (msk (fun t => (h.2.2.2 1 t).isSome) 6)) h
  | 0, t, ht => by
    obtain rfl : t = 6 := by omega
    rw [b_196_4, if_neg (by decide)]
  | n + 1, t, ht => by
    have ih := told_lp w n (t + 1) (by omega)
    rw [msk] at ih
    rw [b_196_4, if_pos (show nI t < (6 : Int32) from nI_lt (b := 6) (by omega) (by omega)), gR_0_0 w, ld_1 w (by omega), nI_1, or0I, nb_sh1 t (by omega), nb_or]
    cases q : h.2.2.2 1 t with
    | none =>
      rw [q] at ih
      exact ih
    | some a =>
      rw [q] at ih
      exact ih
theorem c_toldT (w : WF h) : ev X (d + 1) 196 [vr (some 0)] h = av_rI (nI (msk (fun t => (h.2.2.2 1 t).isSome) 6)) h := by
  rw [e_196, b_196_0]
  exact told_lp w 6 0 (by omega)
theorem c_toldT' (w : WF h) {β : Type} (Kc : Int32 × av_H → Option β) : (av_cI (ev X (d + 1) 196 [vr (some 0)] h)).bind Kc = Kc (nI (msk (fun t => (h.2.2.2 1 t).isSome) 6), h) := by rw [c_toldT w]; rfl
theorem cnt0_lp (w : WF h) : ∀ n t, t + n = 6 → bd X d 376 9 [(0, vr (some 137)), (2, vi (nI (fb_ct (fun t => decide (0 < h.2.1 143 t)) t))), (3, vi (nI t))] [] h = av_rI (nI (fb_ct (fun t => decide (0 < h.2.1 143 t)) 6)) h
  | 0, t, ht => by
    obtain rfl : t = 6 := by omega
    rw [b_376_9, if_neg (by decide)]
  | n + 1, t, ht => by
    have ih := cnt0_lp w n (t + 1) (by omega)
    rw [fb_ct_succ] at ih
    rw [b_376_9, if_pos (show nI t < (6 : Int32) from nI_lt (b := 6) (by omega) (by omega)), gR_137_10 w, ld_143 w (by omega), nI_1, nI_1, Int32.add_zero]
    by_cases q : 0 < h.2.1 143 t
    · rw [if_pos q]
      rw [decide_eq_true q, if_pos rfl] at ih
      exact ih
    · rw [if_neg q]
      rw [decide_eq_false q, if_neg (by decide)] at ih
      exact ih
theorem there_lp (w : WF h) : ∀ n t, t + n = 8 → bd X d 108 4 [(0, vr (some 56)), (1, vi (nI (msk (fun t => decide (0 < h.2.1 59 t)) t))), (2, vi (nI t))] [] h = av_rI (nI (msk (fun t => decide (0 < h.2.1 59 t)) 8)) h
  | 0, t, ht => by
    obtain rfl : t = 8 := by omega
    rw [b_108_4, if_neg (by decide)]
  | n + 1, t, ht => by
    have ih := there_lp w n (t + 1) (by omega)
    rw [msk] at ih
    rw [b_108_4, if_pos (show nI t < (8 : Int32) from nI_lt (b := 8) (by omega) (by omega)), gR_56_2 w, ld_59 w (by omega), nI_1, or0I, nb_sh1 t (by omega), nb_or]
    by_cases q : 0 < h.2.1 59 t
    · rw [if_pos q]
      rw [decide_eq_true q, if_pos rfl] at ih
      exact ih
    · rw [if_neg q]
      rw [decide_eq_false q, if_neg (by decide)] at ih
      exact ih
theorem c_there (w : WF h) : ev X (d + 1) 108 [vr (some 56)] h = av_rI (nI (msk (fun t => decide (0 < h.2.1 59 t)) 8)) h := by
  rw [e_108, b_108_0]
  exact there_lp w 8 0 (by omega)
theorem c_there' (w : WF h) {β : Type} (Kc : Int32 × av_H → Option β) : (av_cI (ev X (d + 1) 108 [vr (some 56)] h)).bind Kc = Kc (nI (msk (fun t => decide (0 < h.2.1 59 t)) 8), h) := by rw [c_there w]; rfl
theorem cnt5_lp (w : WF h) : ∀ n t, t + n = 8 → bd X d 376 41 [(0, vr (some 137)), (2, vi (nI (fb_ct (fun t => decide (0 < h.2.1 195 t)) t))), (3, vi (nI t))] [] h = av_rI (nI (fb_ct (fun t => decide (0 < h.2.1 195 t)) 8)) h
  | 0, t, ht => by
    obtain rfl : t = 8 := by omega
    rw [b_376_41, if_neg (by decide)]
  | n + 1, t, ht => by
    have ih := cnt5_lp w n (t + 1) (by omega)
    rw [fb_ct_succ] at ih
    rw [b_376_41, if_pos (show nI t < (8 : Int32) from nI_lt (b := 8) (by omega) (by omega)), gR_137_75 w, ld_195 w (by omega), nI_1, nI_1, Int32.add_zero]
    by_cases q : 0 < h.2.1 195 t
    · rw [if_pos q]
      rw [decide_eq_true q, if_pos rfl] at ih
      exact ih
    · rw [if_neg q]
      rw [decide_eq_false q, if_neg (by decide)] at ih
      exact ih
theorem cnt7_lp (w : WF h) {b : Nat} (hb : ∀ p, p < 10 → h.2.1 159 p = bI (b.testBit p)) : ∀ n t, t + n = 10 → bd X d 376 64 [(0, vr (some 137)), (2, vi (nI (fb_ct (fun i => b.testBit i) t))), (3, vi (nI t))] [] h = av_rI (nI (fb_ct (fun i => b.testBit i) 10)) h
  | 0, t, ht => by
    obtain rfl : t = 10 := by omega
    rw [b_376_64, if_neg (by decide)]
  | n + 1, t, ht => by
    have ih := cnt7_lp w hb n (t + 1) (by omega)
    rw [fb_ct_succ] at ih
    rw [b_376_64, if_pos (show nI t < (10 : Int32) from nI_lt (b := 10) (by omega) (by omega)), gR_137_28 w, ld_159 w (by omega), hb t (by omega), nI_1, nI_1, Int32.add_zero]
    cases q : b.testBit t with
    | false =>
      rw [q] at ih
      rw [if_pos (show bI false = 0 from rfl)]
      exact ih
    | true =>
      rw [q] at ih
      rw [if_neg (show ¬ bI true = 0 by decide)]
      exact ih
theorem cnt8_lp (w : WF h) : ∀ n t, t + n = 2880 → bd X d 376 84 [(0, vr (some 137)), (2, vi (nI (fb_ct (fun i => !decide (h.2.1 145 i = 0)) t))), (3, vi (nI t))] [] h = av_rI (nI (fb_ct (fun i => !decide (h.2.1 145 i = 0)) 2880)) h
  | 0, t, ht => by
    obtain rfl : t = 2880 := by omega
    rw [b_376_84, if_neg (show ¬ nI 2880 < (2880 : Int32) by decide)]
  | n + 1, t, ht => by
    have ih := cnt8_lp w n (t + 1) (by omega)
    rw [fb_ct_succ] at ih
    rw [b_376_84, if_pos (show nI t < (2880 : Int32) from nI_lt (b := 2880) (by omega) (by omega)), gR_137_12 w, ld_145 w (by omega), nI_1, nI_1, Int32.add_zero]
    by_cases q : h.2.1 145 t = 0
    · rw [if_pos q]
      rw [decide_eq_true q] at ih
      exact ih
    · rw [if_neg q]
      rw [decide_eq_false q] at ih
      exact ih
/-- the blocked panes of tower a's cells -/
def bkC (h : av_H) (a i : Nat) : Nat := bct (h.2.1 (a + 1) i).toNatClampNeg
theorem bk_lp {a t : Nat} (T : twA h t a) : ∀ n i, i + n = 40 → bd X (d + 1) 119 4 [(0, vr (some a)), (1, vi (nI (fb_sm (bkC h a) i))), (2, vi (nI i))] [] h = av_rI (nI (fb_sm (bkC h a) 40)) h
  | 0, i, hi => by
    obtain rfl : i = 40 := by omega
    obtain ⟨b0, k1, k2, k3, r5, r6, -⟩ := T
    rw [b_119_4, tw_gR5 k1 r5, tw_n40 k2, if_neg (by decide)]
  | n + 1, i, hi => by
    have ih := bk_lp T n (i + 1) (by omega)
    obtain ⟨b, b1, b2, -⟩ := T.2.2.2.2.2.2.2.1 (i / 10) (by omega) (i % 10) (by omega)
    rw [show i / 10 * 10 + i % 10 = i by omega] at b2
    obtain ⟨b0, k1, k2, k3, r5, r6, -⟩ := T
    have e : bkC h a i = bct b := by rw [bkC, b2, nI_clamp (by omega)]
    rw [fb_sm_succ, e] at ih
    rw [b_119_4, tw_gR5 k1 r5, tw_n40 k2, if_pos (nI_lt (by omega) (by omega)), tw_gR5 k1 r5, tw_l40 k2 (by omega), b2, c_bc32' (by omega), nI_add, nI_1]
    exact ih
/-- by tower -/
def bkT (h : av_H) (t : Nat) : Nat := match h.2.2.2 1 t with
  | none => 0
  | some a => fb_sm (bkC h a) 40
theorem bkT_lp (w : WF h) (J : J_tow h) : ∀ n t, t + n = 6 → bd X (d + 2) 197 4 [(0, vr (some 0)), (1, vi (nI (fb_sm (bkT h) t))), (2, vi (nI t))] [] h = av_rI (nI (fb_sm (bkT h) 6)) h
  | 0, t, ht => by
    obtain rfl : t = 6 := by omega
    rw [b_197_4, if_neg (by decide)]
  | n + 1, t, ht => by
    have ih := bkT_lp w J n (t + 1) (by omega)
    rw [fb_sm_succ, bkT] at ih
    rw [b_197_4, if_pos (show nI t < (6 : Int32) from nI_lt (b := 6) (by omega) (by omega)), gR_0_0 w, ld_1 w (by omega), nI_1, Int32.add_zero]
    rcases J.1 t (by omega) with ⟨h1, -⟩ | ⟨a, h1, T⟩
    · rw [h1] at ih
      rw [h1, if_pos (show (none : Option Nat).isNone = true from rfl)]
      exact ih
    · rw [h1] at ih
      rw [h1, if_neg (by simp), gR_0_0 w, ld1v w (by omega) h1, tw_is T.2.1]
      have e : ev X (d + 2) 119 [vr (some a)] h = av_rI (nI (fb_sm (bkC h a) 40)) h := by
        rw [e_119, b_119_0]
        exact bk_lp T 40 0 (by omega)
      rw [e, av_cI_r, Option.bind_some, nI_add]
      exact ih
theorem bk_eq (J : J_tow h) : fb_sm (bkT h) 6 = fb_ct (fun i => !decide (h.2.1 145 i = 0)) 2880 := by
  rw [show (2880 : Nat) = 480 * 6 from rfl, ct_chunk]
  refine fb_sm_cong fun t ht => ?_
  have in120 : ∀ s, s < 4 → fb_ct (fun j => !decide (h.2.1 145 (480 * t + (120 * s + j)) = 0)) (10 * 12) = fb_sm (fun c => fb_ct (fun f => !decide (h.2.1 145 (((4 * t + s) * 12 + f) * 10 + c) = 0)) 12) 10 := fun s hs => by
    rw [ct_chunk, sm_swap]
    exact fb_sm_cong fun c _ => fb_ct_cong fun f _ => by rw [show 480 * t + (120 * s + (10 * f + c)) = ((4 * t + s) * 12 + f) * 10 + c by omega]
  rw [show (480 : Nat) = 120 * 4 from rfl, ct_chunk]
  rw [fb_sm_cong (g := fun s => fb_sm (fun c => fb_ct (fun f => !decide (h.2.1 145 (((4 * t + s) * 12 + f) * 10 + c) = 0)) 12) 10) (fun s hs => in120 s hs)]
  rcases J.1 t ht with ⟨h1, N⟩ | ⟨a, h1, T⟩
  · rw [bkT, h1]
    obtain ⟨-, -, -, -, u5, -⟩ := N
    symm
    have z : ∀ s, s < 4 → fb_sm (fun c => fb_ct (fun f => !decide (h.2.1 145 (((4 * t + s) * 12 + f) * 10 + c) = 0)) 12) 10 = 0 := fun s hs => by
      rw [fb_sm_cong (g := fun _ => 0) (fun c hc => fb_ct_zero.mpr fun f hf => by rw [u5 s hs c hc f hf]; rfl), fb_sm_const]
    rw [fb_sm_cong (g := fun _ => 0) z, fb_sm_const]
  · rw [bkT, h1]
    show fb_sm (bkC h a) (10 * 4) = _
    rw [sm_chunk]
    refine fb_sm_cong fun s hs => fb_sm_cong fun c hc => ?_
    obtain ⟨b, b1, b2, b3⟩ := T.2.2.2.2.2.2.2.1 s hs c hc
    rw [bkC, show 10 * s + c = s * 10 + c by omega, b2, nI_clamp (by omega), bct, ct_big (m := 12) b1 (by decide)]
    exact fb_ct_cong fun f hf => by
      rw [b3 f hf]
      cases b.testBit f <;> rfl
theorem count_ok (w : WF h) (J : J_tow h) (Dp : J_dp h) (Ne : J_ne h) (Lv : J_lv h) (Wa : J_wa h) (Of : J_of h) (Tp : J_tp h) (El : J_el h) (Ke : J_ke h) (Fi : J_fi h) (Co : J_co h) (Ro : J_ro h) (z : Int32) : ∃ v h1 h2, ev X (d + 4) 182 [vr (some 0), vi z] h = av_rI v h1 ∧ ev X (d + 4) 376 [vr (some 137), vi z] h1 = av_rI v h2 ∧ WF h2 ∧ off false [] [(137, 0)] h h2 := by
  by_cases hz : rg z 0 12 = true
  · obtain ⟨k, hk, rfl⟩ := rg_nI (b := 12) (by decide) hz
    obtain rfl | rfl | rfl | rfl | rfl | rfl | rfl | rfl | rfl | rfl | rfl | rfl | rfl : k = 0 ∨ k = 1 ∨ k = 2 ∨ k = 3 ∨ k = 4 ∨ k = 5 ∨ k = 6 ∨ k = 7 ∨ k = 8 ∨ k = 9 ∨ k = 10 ∨ k = 11 ∨ k = 12 := by omega
    · refine ⟨nI (fb_ct (fun t => decide (0 < h.2.1 143 t)) 6), h, th h, ?_, ?_, w, agr.uI rfl agr.rfl⟩
      · rw [e_182, b_182_0, if_pos (show nI 0 = (0 : Int32) from rfl), is_0 w, c_toldT' w, c_bc32' (Nat.lt_trans (msk_lt 6) (by decide)), msk_ct (by decide)]
        rw [fb_ct_cong (q := fun t => decide (0 < h.2.1 143 t)) (fun t ht => by rw [told_iff J ht, told_nI ht])]
      · have e := cnt0_lp (X := X) (d := d + 3) (WF_th w) 6 0 (by omega)
        rw [th_I (by decide)] at e
        rw [e_376, b_376_0, pI_137 w, if_pos (show nI 0 = (0 : Int32) from rfl)]
        exact e
    · obtain ⟨m, D, M, N, -, ⟨e1, -⟩, ⟨e2, -⟩, -⟩ := Dp
      refine ⟨nI m, h, th h, ?_, ?_, w, agr.uI rfl agr.rfl⟩
      · rw [e_182, b_182_0, if_neg (show ¬ nI 1 = (0 : Int32) by decide), if_pos (show nI 1 = (1 : Int32) from rfl), gI_0_17 w, e1]
      · rw [e_376, b_376_0, pI_137 w, if_neg (show ¬ nI 1 = (0 : Int32) by decide), if_pos (show nI 1 = (1 : Int32) from rfl), th_e, gI_137_45 (WF_th w), th_k (by decide), e2]
    · obtain ⟨m, -, e1, e2, -⟩ := Ne
      refine ⟨nI m, h, th h, ?_, ?_, w, agr.uI rfl agr.rfl⟩
      · rw [e_182, b_182_0, if_neg (show ¬ nI 2 = (0 : Int32) by decide), if_neg (show ¬ nI 2 = (1 : Int32) by decide), if_pos (show nI 2 = (2 : Int32) from rfl), gR_0_2 w, gI_3_5 w, e1]
      · rw [e_376, b_376_0, pI_137 w, if_neg (show ¬ nI 2 = (0 : Int32) by decide), if_neg (show ¬ nI 2 = (1 : Int32) by decide), if_pos (show nI 2 = (2 : Int32) from rfl), th_e, gI_137_18 (WF_th w), th_k (by decide), e2]
    · obtain ⟨m, -, e1, e2, -⟩ := Lv
      refine ⟨nI m, h, th h, ?_, ?_, w, agr.uI rfl agr.rfl⟩
      · rw [e_182, b_182_0, if_neg (show ¬ nI 3 = (0 : Int32) by decide), if_neg (show ¬ nI 3 = (1 : Int32) by decide), if_neg (show ¬ nI 3 = (2 : Int32) by decide), if_pos (show nI 3 = (3 : Int32) from rfl), gR_0_3 w, gI_9_5 w, e1]
      · rw [e_376, b_376_0, pI_137 w, if_neg (show ¬ nI 3 = (0 : Int32) by decide), if_neg (show ¬ nI 3 = (1 : Int32) by decide), if_neg (show ¬ nI 3 = (2 : Int32) by decide), if_pos (show nI 3 = (3 : Int32) from rfl), th_e, gI_137_23 (WF_th w), th_k (by decide), e2]
    · obtain ⟨m, p, S, W, -, e1, e2, -⟩ := Wa
      refine ⟨nI m, h, th h, ?_, ?_, w, agr.uI rfl agr.rfl⟩
      · rw [e_182, b_182_0, if_neg (show ¬ nI 4 = (0 : Int32) by decide), if_neg (show ¬ nI 4 = (1 : Int32) by decide), if_neg (show ¬ nI 4 = (2 : Int32) by decide), if_neg (show ¬ nI 4 = (3 : Int32) by decide), if_pos (show nI 4 = (4 : Int32) from rfl), gR_0_9 w, gI_46_0 w, e1]
      · rw [e_376, b_376_0, pI_137 w, if_neg (show ¬ nI 4 = (0 : Int32) by decide), if_neg (show ¬ nI 4 = (1 : Int32) by decide), if_neg (show ¬ nI 4 = (2 : Int32) by decide), if_neg (show ¬ nI 4 = (3 : Int32) by decide), if_pos (show nI 4 = (4 : Int32) from rfl), th_e, gI_137_64 (WF_th w), th_k (by decide), e2]
    · refine ⟨nI (fb_ct (fun t => decide (0 < h.2.1 195 t)) 8), h, th h, ?_, ?_, w, agr.uI rfl agr.rfl⟩
      · rw [e_182, b_182_0, if_neg (show ¬ nI 5 = (0 : Int32) by decide), if_neg (show ¬ nI 5 = (1 : Int32) by decide), if_neg (show ¬ nI 5 = (2 : Int32) by decide), if_neg (show ¬ nI 5 = (3 : Int32) by decide), if_neg (show ¬ nI 5 = (4 : Int32) by decide), if_pos (show nI 5 = (5 : Int32) from rfl), gR_0_10 w, is_56 w, e_105, b_105_0, is_56 w, c_there' w, c_bc32' (Nat.lt_trans (msk_lt 8) (by decide)), msk_ct (by decide), av_cI_r, Option.bind_some]
        rw [fb_ct_cong (q := fun t => decide (0 < h.2.1 195 t)) (fun t ht => by
          obtain ⟨c, u, m, -, -, -, e1, e2, -⟩ := Of t ht
          rw [e1, e2])]
      · have e := cnt5_lp (X := X) (d := d + 3) (WF_th w) 8 0 (by omega)
        rw [th_I (by decide)] at e
        rw [e_376, b_376_0, pI_137 w, if_neg (show ¬ nI 5 = (0 : Int32) by decide), if_neg (show ¬ nI 5 = (1 : Int32) by decide), if_neg (show ¬ nI 5 = (2 : Int32) by decide), if_neg (show ¬ nI 5 = (3 : Int32) by decide), if_neg (show ¬ nI 5 = (4 : Int32) by decide), if_pos (show nI 5 = (5 : Int32) from rfl)]
        exact e
    · obtain ⟨m, -, e1, e2, -⟩ := Tp
      refine ⟨nI m, h, th h, ?_, ?_, w, agr.uI rfl agr.rfl⟩
      · rw [e_182, b_182_0, if_neg (show ¬ nI 6 = (0 : Int32) by decide), if_neg (show ¬ nI 6 = (1 : Int32) by decide), if_neg (show ¬ nI 6 = (2 : Int32) by decide), if_neg (show ¬ nI 6 = (3 : Int32) by decide), if_neg (show ¬ nI 6 = (4 : Int32) by decide), if_neg (show ¬ nI 6 = (5 : Int32) by decide), if_pos (show nI 6 = (6 : Int32) from rfl), gR_0_7 w, gI_37_0 w, e1]
      · rw [e_376, b_376_0, pI_137 w, if_neg (show ¬ nI 6 = (0 : Int32) by decide), if_neg (show ¬ nI 6 = (1 : Int32) by decide), if_neg (show ¬ nI 6 = (2 : Int32) by decide), if_neg (show ¬ nI 6 = (3 : Int32) by decide), if_neg (show ¬ nI 6 = (4 : Int32) by decide), if_neg (show ¬ nI 6 = (5 : Int32) by decide), if_pos (show nI 6 = (6 : Int32) from rfl), th_e, gI_137_2 (WF_th w), th_k (by decide), e2]
    · obtain ⟨b, b1, b2, b3⟩ := El
      refine ⟨nI (fb_ct (fun i => b.testBit i) 10), h, th h, ?_, ?_, w, agr.uI rfl agr.rfl⟩
      · rw [e_182, b_182_0, if_neg (show ¬ nI 7 = (0 : Int32) by decide), if_neg (show ¬ nI 7 = (1 : Int32) by decide), if_neg (show ¬ nI 7 = (2 : Int32) by decide), if_neg (show ¬ nI 7 = (3 : Int32) by decide), if_neg (show ¬ nI 7 = (4 : Int32) by decide), if_neg (show ¬ nI 7 = (5 : Int32) by decide), if_neg (show ¬ nI 7 = (6 : Int32) by decide), if_pos (show nI 7 = (7 : Int32) from rfl), gR_0_6 w, is_27 w, e_26, b_26_0, gI_27_3 w, b2, c_bc32' (by omega), av_cI_r, Option.bind_some, bct, ct_big (m := 10) b1 (by decide)]
      · have e := cnt7_lp (X := X) (d := d + 3) (h := th h) (WF_th w) (b := b) (fun p hp => by rw [th_I (by decide)]; exact b3 p hp) 10 0 (by omega)
        rw [e_376, b_376_0, pI_137 w, if_neg (show ¬ nI 7 = (0 : Int32) by decide), if_neg (show ¬ nI 7 = (1 : Int32) by decide), if_neg (show ¬ nI 7 = (2 : Int32) by decide), if_neg (show ¬ nI 7 = (3 : Int32) by decide), if_neg (show ¬ nI 7 = (4 : Int32) by decide), if_neg (show ¬ nI 7 = (5 : Int32) by decide), if_neg (show ¬ nI 7 = (6 : Int32) by decide), if_pos (show nI 7 = (7 : Int32) from rfl)]
        exact e
    · refine ⟨nI (fb_sm (bkT h) 6), h, th h, ?_, ?_, w, agr.uI rfl agr.rfl⟩
      · have e := bkT_lp (X := X) (d := d) w J 6 0 (by omega)
        rw [e_182, b_182_0, if_neg (show ¬ nI 8 = (0 : Int32) by decide), if_neg (show ¬ nI 8 = (1 : Int32) by decide), if_neg (show ¬ nI 8 = (2 : Int32) by decide), if_neg (show ¬ nI 8 = (3 : Int32) by decide), if_neg (show ¬ nI 8 = (4 : Int32) by decide), if_neg (show ¬ nI 8 = (5 : Int32) by decide), if_neg (show ¬ nI 8 = (6 : Int32) by decide), if_neg (show ¬ nI 8 = (7 : Int32) by decide), if_pos (show nI 8 = (8 : Int32) from rfl), is_0 w, e_197, b_197_0]
        exact (congrArg (fun y => (av_cI y).bind fun q => av_rI q.1 q.2) e).trans rfl
      · have e := cnt8_lp (X := X) (d := d + 3) (WF_th w) 2880 0 (by omega)
        rw [th_I (by decide), ← bk_eq J] at e
        rw [e_376, b_376_0, pI_137 w, if_neg (show ¬ nI 8 = (0 : Int32) by decide), if_neg (show ¬ nI 8 = (1 : Int32) by decide), if_neg (show ¬ nI 8 = (2 : Int32) by decide), if_neg (show ¬ nI 8 = (3 : Int32) by decide), if_neg (show ¬ nI 8 = (4 : Int32) by decide), if_neg (show ¬ nI 8 = (5 : Int32) by decide), if_neg (show ¬ nI 8 = (6 : Int32) by decide), if_neg (show ¬ nI 8 = (7 : Int32) by decide), if_pos (show nI 8 = (8 : Int32) from rfl)]
        exact e
    · obtain ⟨m, T, P, K, B, ⟨-, e2, -⟩, e1, -⟩ := Ke
      refine ⟨nI m, h, th h, ?_, ?_, w, agr.uI rfl agr.rfl⟩
      · rw [e_182, b_182_0, if_neg (show ¬ nI 9 = (0 : Int32) by decide), if_neg (show ¬ nI 9 = (1 : Int32) by decide), if_neg (show ¬ nI 9 = (2 : Int32) by decide), if_neg (show ¬ nI 9 = (3 : Int32) by decide), if_neg (show ¬ nI 9 = (4 : Int32) by decide), if_neg (show ¬ nI 9 = (5 : Int32) by decide), if_neg (show ¬ nI 9 = (6 : Int32) by decide), if_neg (show ¬ nI 9 = (7 : Int32) by decide), if_neg (show ¬ nI 9 = (8 : Int32) by decide), if_pos (show nI 9 = (9 : Int32) from rfl), gR_0_8 w, gI_41_0 w, e1]
      · rw [e_376, b_376_0, pI_137 w, if_neg (show ¬ nI 9 = (0 : Int32) by decide), if_neg (show ¬ nI 9 = (1 : Int32) by decide), if_neg (show ¬ nI 9 = (2 : Int32) by decide), if_neg (show ¬ nI 9 = (3 : Int32) by decide), if_neg (show ¬ nI 9 = (4 : Int32) by decide), if_neg (show ¬ nI 9 = (5 : Int32) by decide), if_neg (show ¬ nI 9 = (6 : Int32) by decide), if_neg (show ¬ nI 9 = (7 : Int32) by decide), if_neg (show ¬ nI 9 = (8 : Int32) by decide), if_pos (show nI 9 = (9 : Int32) from rfl), th_e, gI_137_80 (WF_th w), th_k (by decide), e2]
    · obtain ⟨m, -, e1, e2, -⟩ := Fi
      refine ⟨nI m, h, th h, ?_, ?_, w, agr.uI rfl agr.rfl⟩
      · rw [e_182, b_182_0, if_neg (show ¬ nI 10 = (0 : Int32) by decide), if_neg (show ¬ nI 10 = (1 : Int32) by decide), if_neg (show ¬ nI 10 = (2 : Int32) by decide), if_neg (show ¬ nI 10 = (3 : Int32) by decide), if_neg (show ¬ nI 10 = (4 : Int32) by decide), if_neg (show ¬ nI 10 = (5 : Int32) by decide), if_neg (show ¬ nI 10 = (6 : Int32) by decide), if_neg (show ¬ nI 10 = (7 : Int32) by decide), if_neg (show ¬ nI 10 = (8 : Int32) by decide), if_neg (show ¬ nI 10 = (9 : Int32) by decide), if_pos (show nI 10 = (10 : Int32) from rfl), gR_0_4 w, gI_15_5 w, e1]
      · rw [e_376, b_376_0, pI_137 w, if_neg (show ¬ nI 10 = (0 : Int32) by decide), if_neg (show ¬ nI 10 = (1 : Int32) by decide), if_neg (show ¬ nI 10 = (2 : Int32) by decide), if_neg (show ¬ nI 10 = (3 : Int32) by decide), if_neg (show ¬ nI 10 = (4 : Int32) by decide), if_neg (show ¬ nI 10 = (5 : Int32) by decide), if_neg (show ¬ nI 10 = (6 : Int32) by decide), if_neg (show ¬ nI 10 = (7 : Int32) by decide), if_neg (show ¬ nI 10 = (8 : Int32) by decide), if_neg (show ¬ nI 10 = (9 : Int32) by decide), if_pos (show nI 10 = (10 : Int32) from rfl), th_e, gI_137_85 (WF_th w), th_k (by decide), e2]
    · obtain ⟨m, -, e1, e2, -⟩ := Co
      refine ⟨nI m, h, th h, ?_, ?_, w, agr.uI rfl agr.rfl⟩
      · rw [e_182, b_182_0, if_neg (show ¬ nI 11 = (0 : Int32) by decide), if_neg (show ¬ nI 11 = (1 : Int32) by decide), if_neg (show ¬ nI 11 = (2 : Int32) by decide), if_neg (show ¬ nI 11 = (3 : Int32) by decide), if_neg (show ¬ nI 11 = (4 : Int32) by decide), if_neg (show ¬ nI 11 = (5 : Int32) by decide), if_neg (show ¬ nI 11 = (6 : Int32) by decide), if_neg (show ¬ nI 11 = (7 : Int32) by decide), if_neg (show ¬ nI 11 = (8 : Int32) by decide), if_neg (show ¬ nI 11 = (9 : Int32) by decide), if_neg (show ¬ nI 11 = (10 : Int32) by decide), if_pos (show nI 11 = (11 : Int32) from rfl), gR_0_5 w, gI_21_5 w, e1]
      · rw [e_376, b_376_0, pI_137 w, if_neg (show ¬ nI 11 = (0 : Int32) by decide), if_neg (show ¬ nI 11 = (1 : Int32) by decide), if_neg (show ¬ nI 11 = (2 : Int32) by decide), if_neg (show ¬ nI 11 = (3 : Int32) by decide), if_neg (show ¬ nI 11 = (4 : Int32) by decide), if_neg (show ¬ nI 11 = (5 : Int32) by decide), if_neg (show ¬ nI 11 = (6 : Int32) by decide), if_neg (show ¬ nI 11 = (7 : Int32) by decide), if_neg (show ¬ nI 11 = (8 : Int32) by decide), if_neg (show ¬ nI 11 = (9 : Int32) by decide), if_neg (show ¬ nI 11 = (10 : Int32) by decide), if_pos (show nI 11 = (11 : Int32) from rfl), th_e, gI_137_92 (WF_th w), th_k (by decide), e2]
    · obtain ⟨m, -, e1, e2, -⟩ := Ro
      refine ⟨nI m, h, th h, ?_, ?_, w, agr.uI rfl agr.rfl⟩
      · rw [e_182, b_182_0, if_neg (show ¬ nI 12 = (0 : Int32) by decide), if_neg (show ¬ nI 12 = (1 : Int32) by decide), if_neg (show ¬ nI 12 = (2 : Int32) by decide), if_neg (show ¬ nI 12 = (3 : Int32) by decide), if_neg (show ¬ nI 12 = (4 : Int32) by decide), if_neg (show ¬ nI 12 = (5 : Int32) by decide), if_neg (show ¬ nI 12 = (6 : Int32) by decide), if_neg (show ¬ nI 12 = (7 : Int32) by decide), if_neg (show ¬ nI 12 = (8 : Int32) by decide), if_neg (show ¬ nI 12 = (9 : Int32) by decide), if_neg (show ¬ nI 12 = (10 : Int32) by decide), if_neg (show ¬ nI 12 = (11 : Int32) by decide), if_pos (show nI 12 = (12 : Int32) from rfl), gI_0_18 w, e1]
      · rw [e_376, b_376_0, pI_137 w, if_neg (show ¬ nI 12 = (0 : Int32) by decide), if_neg (show ¬ nI 12 = (1 : Int32) by decide), if_neg (show ¬ nI 12 = (2 : Int32) by decide), if_neg (show ¬ nI 12 = (3 : Int32) by decide), if_neg (show ¬ nI 12 = (4 : Int32) by decide), if_neg (show ¬ nI 12 = (5 : Int32) by decide), if_neg (show ¬ nI 12 = (6 : Int32) by decide), if_neg (show ¬ nI 12 = (7 : Int32) by decide), if_neg (show ¬ nI 12 = (8 : Int32) by decide), if_neg (show ¬ nI 12 = (9 : Int32) by decide), if_neg (show ¬ nI 12 = (10 : Int32) by decide), if_neg (show ¬ nI 12 = (11 : Int32) by decide), if_pos (show nI 12 = (12 : Int32) from rfl), th_e, gI_137_98 (WF_th w), th_k (by decide), e2]
  · have ne : ∀ k : Nat, k ≤ 12 → ¬ z = nI k := fun k hk e => hz (by rw [e]; exact rg_lt2 (n := 12) hk (by decide))
    refine ⟨-1, h, th h, ?_, ?_, w, agr.uI rfl agr.rfl⟩
    · rw [e_182, b_182_0, if_neg (show ¬ z = (0 : Int32) from ne 0 (by decide)), if_neg (show ¬ z = (1 : Int32) from ne 1 (by decide)), if_neg (show ¬ z = (2 : Int32) from ne 2 (by decide)), if_neg (show ¬ z = (3 : Int32) from ne 3 (by decide)), if_neg (show ¬ z = (4 : Int32) from ne 4 (by decide)), if_neg (show ¬ z = (5 : Int32) from ne 5 (by decide)), if_neg (show ¬ z = (6 : Int32) from ne 6 (by decide)), if_neg (show ¬ z = (7 : Int32) from ne 7 (by decide)), if_neg (show ¬ z = (8 : Int32) from ne 8 (by decide)), if_neg (show ¬ z = (9 : Int32) from ne 9 (by decide)), if_neg (show ¬ z = (10 : Int32) from ne 10 (by decide)), if_neg (show ¬ z = (11 : Int32) from ne 11 (by decide)), if_neg (show ¬ z = (12 : Int32) from ne 12 (by decide))]
    · rw [e_376, b_376_0, pI_137 w, if_neg (show ¬ z = (0 : Int32) from ne 0 (by decide)), if_neg (show ¬ z = (1 : Int32) from ne 1 (by decide)), if_neg (show ¬ z = (2 : Int32) from ne 2 (by decide)), if_neg (show ¬ z = (3 : Int32) from ne 3 (by decide)), if_neg (show ¬ z = (4 : Int32) from ne 4 (by decide)), if_neg (show ¬ z = (5 : Int32) from ne 5 (by decide)), if_neg (show ¬ z = (6 : Int32) from ne 6 (by decide)), if_neg (show ¬ z = (7 : Int32) from ne 7 (by decide)), if_neg (show ¬ z = (8 : Int32) from ne 8 (by decide)), if_neg (show ¬ z = (9 : Int32) from ne 9 (by decide)), if_neg (show ¬ z = (10 : Int32) from ne 10 (by decide)), if_neg (show ¬ z = (11 : Int32) from ne 11 (by decide)), if_neg (show ¬ z = (12 : Int32) from ne 12 (by decide))]
      rfl
end
