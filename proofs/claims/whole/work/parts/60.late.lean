/-! late -/
theorem ct_sm (p : Nat → Bool) : ∀ n, fb_sm (fun k => if p k = true then 1 else 0) n = fb_ct p n
  | 0 => rfl
  | n + 1 => by rw [fb_sm_succ, fb_ct_succ, ct_sm p n]
theorem sm_swap (p : Nat → Nat → Bool) (F : Nat) : ∀ C, fb_sm (fun c => fb_ct (p c) F) C = fb_sm (fun f => fb_ct (fun c => p c f) C) F
  | 0 => by
    show 0 = fb_sm (fun _ => 0) F
    rw [fb_sm_const, Nat.mul_zero]
  | C + 1 => by
    rw [fb_sm_succ, sm_swap p F C, ← ct_sm (p C) F, ← fb_sm_add]
    exact fb_sm_cong fun f _ => by rw [fb_ct_succ]
/-- the floors of a column that are not blocked -/
def frM (F b : Nat) : Nat := nd (2 ^ F - 1) b
theorem frM_bit {F b f : Nat} : (frM F b).testBit f = (decide (f < F) && !b.testBit f) := by rw [frM, nd_bit, Nat.testBit_two_pow_sub_one]
theorem frM_lt {F b : Nat} (hF : F ≤ 12) : frM F b < 4096 := by
  have h1 : (2 : Nat) ^ F ≤ 2 ^ 12 := Nat.pow_le_pow_right (by decide) hF
  have h2 := Nat.two_pow_pos F
  exact nd_lt (n := 12) (by omega)
/-- those of them that no drop of these days washed -/
def lfM (D : Nat → Nat → Nat) (M : Nat → Nat) (F b t s c : Nat) (x y : Int32) : Nat → Nat
  | 0 => frM F b
  | n + 1 => if D n 0 = t ∧ D n 1 = s ∧ rg (nI (D n 4)) x.toInt y.toInt = true then nd (lfM D M F b t s c x y n) (rfl_ (D n) (M n) c) else lfM D M F b t s c x y n
/-- a pane is late -/
def ltB (D : Nat → Nat → Nat) (M : Nat → Nat) (F b t s f c : Nat) (x y : Int32) : Nat → Bool
  | 0 => decide (f < F) && !b.testBit f
  | n + 1 => ltB D M F b t s f c x y n && !(rg (nI (D n 4)) x.toInt y.toInt && rch (D n) (M n) t s f c)
theorem lfM_bit {D : Nat → Nat → Nat} {M : Nat → Nat} {F b t s f c : Nat} {x y : Int32} (hf : f < 12) : ∀ n, (lfM D M F b t s c x y n).testBit f = ltB D M F b t s f c x y n
  | 0 => frM_bit
  | n + 1 => by
    rw [lfM, ltB, ← lfM_bit hf n, rch]
    by_cases q1 : D n 0 = t
    · by_cases q2 : D n 1 = s
      · cases q3 : rg (nI (D n 4)) x.toInt y.toInt with
        | false => rw [if_neg (by simp), Bool.false_and, Bool.not_false, Bool.and_true]
        | true => rw [if_pos ⟨q1, q2, rfl⟩, nd_bit, rfl_bit, decide_eq_true q1, decide_eq_true q2, decide_eq_true hf, Bool.true_and, Bool.true_and, Bool.true_and, Bool.true_and]
      · rw [if_neg (fun z => q2 z.2.1), decide_eq_false q2, Bool.false_and, Bool.and_false, Bool.and_false, Bool.not_false, Bool.and_true]
    · rw [if_neg (fun z => q1 z.1), decide_eq_false q1, Bool.false_and, Bool.and_false, Bool.not_false, Bool.and_true]
theorem lfM_lt {D : Nat → Nat → Nat} {M : Nat → Nat} {F b t s c : Nat} {x y : Int32} (hF : F ≤ 12) : ∀ n, lfM D M F b t s c x y n < 4096
  | 0 => frM_lt hF
  | n + 1 => by
    rw [lfM]
    split
    · exact nd_lt (n := 12) (lfM_lt hF n)
    · exact lfM_lt hF n
theorem ltB_F {D : Nat → Nat → Nat} {M : Nat → Nat} {F b t s f c : Nat} {x y : Int32} (hf : F ≤ f) : ∀ n, ltB D M F b t s f c x y n = false
  | 0 => by rw [ltB, decide_eq_false (by omega), Bool.false_and]
  | n + 1 => by rw [ltB, ltB_F hf n, Bool.false_and]
theorem lfM_ct {D : Nat → Nat → Nat} {M : Nat → Nat} {F b t s c n : Nat} {x y : Int32} (hF : F ≤ 12) : bct (lfM D M F b t s c x y n) = fb_ct (fun f => ltB D M F b t s f c x y n) F := by
  rw [bct, ct_big (m := 12) (lfM_lt hF n) (by decide), fb_ct_cong (q := fun f => ltB D M F b t s f c x y n) (fun f hf => lfM_bit hf n)]
  obtain ⟨k, hk⟩ : ∃ k, 12 = F + k := ⟨12 - F, by omega⟩
  have z : fb_ct (fun j => ltB D M F b t s (F + j) c x y n) k = 0 := fb_ct_zero.mpr (fun j _ => ltB_F (by omega) n)
  rw [hk, fb_ct_split, z, Nat.add_zero]
section
variable {X : av_X} {d : Nat} {h : av_H}
theorem c_freeF {a s c b F : Nat} (k1 : h.1[a]? = some (9, 0)) (k2 : h.1[a + 1]? = some (100, 40)) (r5 : h.2.2.2 a 5 = some (a + 1)) (hs : s < 4) (hc : c < 10) (hb : h.2.1 (a + 1) (s * 10 + c) = nI b) (hF : h.2.1 a 0 = nI F) (F12 : F ≤ 12) : ev X (d + 2) 118 [vr (some a), vi (nI s), vi (nI c)] h = av_rI (nI (frM F b)) h := by
  have p2 := Nat.two_pow_pos F
  simp only [e_118, b_118_0, lit_10, pk_mul, nI_add]
  simp (disch := first | ((repeat (first | with_reducible apply WF_uI | with_reducible apply WF_uL | with_reducible apply WF_th | with_reducible apply WF_fillL | with_reducible apply WF_fgt)); with_reducible assumption) | omega | (simp only [uI_1, uL_1, th_1, uI_R, uL_R]; with_reducible assumption)) only [↓tw_gR5, ↓tw_n40, ↓c_below', rg_lt, bI_0, Bool.true_eq_false, ↓reduceIte, ↓tw_l40, hb, ↓tw_gI, hF, nb_sh1]
  rw [nI_prd p2, Int32.and_comm, nb_andn, frM]
theorem c_freeF' {a s c b F : Nat} (k1 : h.1[a]? = some (9, 0)) (k2 : h.1[a + 1]? = some (100, 40)) (r5 : h.2.2.2 a 5 = some (a + 1)) (hs : s < 4) (hc : c < 10) (hb : h.2.1 (a + 1) (s * 10 + c) = nI b) (hF : h.2.1 a 0 = nI F) (F12 : F ≤ 12) {β : Type} (Kc : Int32 × av_H → Option β) : (av_cI (ev X (d + 2) 118 [vr (some a), vi (nI s), vi (nI c)] h)).bind Kc = Kc (nI (frM F b), h) := by rw [c_freeF k1 k2 r5 hs hc hb hF F12]; rfl
theorem lf_lp (w : WF h) {m : Nat} {D : Nat → Nat → Nat} {M N : Nat → Nat} (Bd : DB m D M N) (C : DC h m D M) {t s c F b : Nat} (ht : t < 6) (hs : s < 4) (hc : c < 10) (hF : F ≤ 12) (x y : Int32) : ∀ n i, i + n = m → bd X (d + 2) 221 10 [(0, vr (some 0)), (1, vi (nI t)), (2, vi (nI s)), (3, vi (nI c)), (4, vi x), (5, vi y), (6, vi (nI (lfM D M F b t s c x y i))), (7, vi (nI i))] [] h = av_rI (nI (lfM D M F b t s c x y m)) h
  | 0, i, hi => by
    have h60 := Bd.1
    obtain rfl : i = m := by omega
    rw [b_221_10, gIv_0_17 w C.1, if_neg (nI_nlt (by omega) (by omega))]
  | n + 1, i, hi => by
    have ih := lf_lp w Bd C ht hs hc hF (b := b) x y n (i + 1) (by omega)
    have h60 := Bd.1
    have P := C.2 i (by omega)
    obtain ⟨b0, b1, b2, -, b4, -, -, -, -, -, -, -, -, -, -, -, -, -, -, -, bM, -⟩ := Bd.2.1 i (by omega)
    rw [lfM] at ih
    rw [b_221_10, gIv_0_17 w C.1, if_pos (nI_lt (by omega) (by omega)), gR_0_13 w, dr_l w (by omega), dr_g w (by omega) P.1 (by decide), nI_1]
    by_cases q1 : D i 0 = t
    · rw [if_pos (congrArg nI q1), dr_g w (by omega) P.1 (by decide)]
      by_cases q2 : D i 1 = s
      · rw [if_pos (congrArg nI q2), dr_g w (by omega) P.1 (by decide), c_within']
        cases q3 : rg (nI (D i 4)) x.toInt y.toInt with
        | false =>
          rw [if_neg (by simp [q3])] at ih
          rw [if_pos (show bI false = 0 from rfl)]
          exact ih
        | true =>
          rw [if_pos ⟨q1, q2, q3⟩] at ih
          rw [if_neg (show ¬ bI true = 0 by decide), dr_is w (by omega), c_rFl' w (by omega) P (by omega) b2 bM, nb_andn]
          exact ih
      · rw [if_neg (fun z => q2 z.2.1)] at ih
        rw [if_neg (fun z => q2 ((nI_eq (by omega) (by omega)).mp z))]
        exact ih
    · rw [if_neg (fun z => q1 z.1)] at ih
      rw [if_neg (fun z => q1 ((nI_eq (by omega) (by omega)).mp z))]
      exact ih
theorem c_lateF {m t s c a b F : Nat} {D : Nat → Nat → Nat} {M N : Nat → Nat} (w : WF h) (Bd : DB m D M N) (C : DC h m D M) (ht : t < 6) (hs : s < 4) (hc : c < 10) (ht' : h.2.2.2 1 t = some a) (k1 : h.1[a]? = some (9, 0)) (k2 : h.1[a + 1]? = some (100, 40)) (r5 : h.2.2.2 a 5 = some (a + 1)) (hb : h.2.1 (a + 1) (s * 10 + c) = nI b) (hF : h.2.1 a 0 = nI F) (F12 : F ≤ 12) (x y : Int32) : ev X (d + 3) 221 [vr (some 0), vi (nI t), vi (nI s), vi (nI c), vi x, vi y] h = av_rI (nI (lfM D M F b t s c x y m)) h := by
  rw [e_221, b_221_0, gR_0_0 w, ld1v w ht ht', tw_is k1, c_freeF' k1 k2 r5 hs hc hb hF F12]
  exact lf_lp w Bd C ht hs hc F12 x y m 0 (by omega)
theorem c_lateF' {m t s c a b F : Nat} {D : Nat → Nat → Nat} {M N : Nat → Nat} (w : WF h) (Bd : DB m D M N) (C : DC h m D M) (ht : t < 6) (hs : s < 4) (hc : c < 10) (ht' : h.2.2.2 1 t = some a) (k1 : h.1[a]? = some (9, 0)) (k2 : h.1[a + 1]? = some (100, 40)) (r5 : h.2.2.2 a 5 = some (a + 1)) (hb : h.2.1 (a + 1) (s * 10 + c) = nI b) (hF : h.2.1 a 0 = nI F) (F12 : F ≤ 12) (x y : Int32) {β : Type} (Kc : Int32 × av_H → Option β) : (av_cI (ev X (d + 3) 221 [vr (some 0), vi (nI t), vi (nI s), vi (nI c), vi x, vi y] h)).bind Kc = Kc (nI (lfM D M F b t s c x y m), h) := by rw [c_lateF w Bd C ht hs hc ht' k1 k2 r5 hb hF F12 x y]; rfl
theorem isL_lp {g : av_H} {m : Nat} {D : Nat → Nat → Nat} {M N : Nat → Nat} (E : EN h g m D M N) {t s f c F b : Nat} (ht : t < 6) (hs : s < 4) (hf : f < 12) (hc : c < 10) (e p : Int32) : ∀ n i, i + n = m → bd X (d + 1) 308 15 [(0, vr (some 137)), (1, vi (nI t)), (2, vi (nI s)), (3, vi (nI f)), (4, vi (nI c)), (5, vi e), (6, vi p), (7, vi (bI (ltB D M F b t s f c (e - p + 1) e i))), (8, vi (nI i))] [] g = av_rI (bI (ltB D M F b t s f c (e - p + 1) e m)) g
  | 0, i, hi => by
    obtain ⟨w, w', Bd, C, R⟩ := E
    have h60 := Bd.1
    obtain rfl : i = m := by omega
    rw [b_308_15, gIv_137_45 w' R.1, if_neg (nI_nlt (by omega) (by omega)), zb_b]
  | n + 1, i, hi => by
    have E0 := E
    have ih := isL_lp E (F := F) (b := b) ht hs hf hc e p n (i + 1) (by omega)
    obtain ⟨w, w', Bd, C, R⟩ := E
    have h60 := Bd.1
    have Q := R.2 i (by omega)
    obtain ⟨-, -, -, p4, -⟩ := R.2 i (by omega)
    rw [b_308_15, gIv_137_45 w' R.1, if_pos (nI_lt (by omega) (by omega)), nI_1]
    cases q : ltB D M F b t s f c (e - p + 1) e i with
    | false =>
      have st : ∀ k, ltB D M F b t s f c (e - p + 1) e (i + k) = false := fun k => by
        induction k with
        | zero => exact q
        | succ k ik => rw [← Nat.add_assoc, ltB, ik, Bool.false_and]
      rw [if_pos (show bI false = 0 from rfl), zb_b, show m = i + (n + 1) by omega, st]
    | true =>
      rw [ltB, q, Bool.true_and] at ih
      rw [if_neg (show ¬ bI true = 0 by decide), gR_137_49 w', ld_171 w' (by omega), p4, s_within']
      cases q3 : rg (nI (D i 4)) (e - p + 1).toInt e.toInt with
      | false =>
        rw [q3] at ih
        rw [if_pos (show bI false = 0 from rfl)]
        exact ih
      | true =>
        rw [q3, Bool.true_and] at ih
        rw [if_neg (show ¬ bI true = 0 by decide), is_137 w', s_didR' w' (by omega) Q (Bd.2.1 i (by omega)) ht hs hf hc]
        cases q4 : rch (D i) (M i) t s f c with
        | false =>
          rw [q4] at ih
          rw [if_pos (show bI false = 0 from rfl)]
          exact ih
        | true =>
          rw [q4] at ih
          rw [if_neg (show ¬ bI true = 0 by decide)]
          exact ih
theorem s_isL {g : av_H} {m : Nat} {D : Nat → Nat → Nat} {M N : Nat → Nat} (E : EN h g m D M N) {t s f c F b : Nat} (ht : t < 6) (hs : s < 4) (hf : f < 12) (hc : c < 10) (fF : f < F) (e p : Int32) (hb : g.2.1 145 (((4 * t + s) * 12 + f) * 10 + c) = bI (b.testBit f)) : ev X (d + 2) 308 [vr (some 137), vi (nI t), vi (nI s), vi (nI f), vi (nI c), vi e, vi p] g = av_rI (bI (ltB D M F b t s f c (e - p + 1) e m)) g := by
  have w' := E.2.1
  have l0 := isL_lp (X := X) (d := d) E (F := F) (b := b) ht hs hf hc e p m 0 (by omega)
  rw [ltB, decide_eq_true fF, Bool.true_and] at l0
  rw [e_308, b_308_0, gR_137_12 w', s_paneOf', ld_145 w' (by omega), hb]
  cases q : b.testBit f with
  | false =>
    rw [q] at l0
    rw [if_pos (show bI false = 0 from rfl)]
    exact l0
  | true =>
    rw [q] at l0
    rw [if_neg (show ¬ bI true = 0 by decide)]
    exact l0
/-- the blocked floors of a side's columns -/
def blkN (h : av_H) (a s c : Nat) : Nat := (h.2.1 (a + 1) (s * 10 + c)).toNatClampNeg
theorem twV.blk {t a : Nat} (T : twV h t a) {s c : Nat} (hs : s < 4) (hc : c < 10) : blkN h a s c < 4096 ∧ h.2.1 (a + 1) (s * 10 + c) = nI (blkN h a s c) ∧ ∀ f, f < 12 → h.2.1 145 (((4 * t + s) * 12 + f) * 10 + c) = bI ((blkN h a s c).testBit f) := by
  obtain ⟨b, b1, b2, b3⟩ := T.2.2.2.2.2.2.2.1 s hs c hc
  have e : blkN h a s c = b := by
    unfold blkN
    rw [b2, nI_clamp (by omega)]
  rw [e]
  exact ⟨b1, b2, b3⟩
theorem twA.blk {t a : Nat} (T : twA h t a) {s c : Nat} (hs : s < 4) (hc : c < 10) : blkN h a s c < 4096 ∧ h.2.1 (a + 1) (s * 10 + c) = nI (blkN h a s c) ∧ ∀ f, f < 12 → h.2.1 145 (((4 * t + s) * 12 + f) * 10 + c) = bI ((blkN h a s c).testBit f) := T.v.blk hs hc
end
