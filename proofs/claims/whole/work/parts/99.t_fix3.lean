/-! the best row -/
theorem XT.len2 {X : av_X} (T : XT X) {h : av_H} (hL : h.1.length ≤ 1000000) : av_len X h (some 1000002) = some (nI 5) := by
  obtain ⟨-, f, e, -⟩ := T
  have z : h.1[1000002]? = none := List.getElem?_eq_none (by omega)
  simp only [av_len, z, e]
  rfl
theorem XT.ld2 {X : av_X} (T : XT X) {h : av_H} (hL : h.1.length ≤ 1000000) {i : Nat} (hi : i < 5) : av_lI X h (some 1000002) (nI i) = some (nI (5 ^ (4 - i))) := by
  obtain ⟨-, f, e, v⟩ := T
  have z : h.1[1000002]? = none := List.getElem?_eq_none (by omega)
  have c : (nI i).toNatClampNeg = i := nI_clamp (by omega)
  have a : av_at h (some 1000002) 100 (nI i) = false := by simp [av_at, z]
  simp only [av_lI, a, e, c]
  rw [if_neg (by decide), if_neg (show ¬ (nI i < 0 ∨ 5 ≤ i) from fun q => q.elim (nI_pos (by omega)) (fun y => by omega)), v i hi]
theorem p5_b {e : Nat} : 0 < 5 ^ (4 - e) ∧ 5 ^ (4 - e) ≤ 625 := ⟨Nat.pow_pos (by decide), Nat.le_trans (Nat.pow_le_pow_right (by decide) (show 4 - e ≤ 4 by omega)) (by decide)⟩
/-- the days of the sides, five bits each -/
def dmk (row : Nat) : Nat → Nat
  | 0 => 0
  | e + 1 => if dgN row e < 4 then dmk row e ||| 2 ^ (dgN row e * 5 + e) else dmk row e
theorem dmk_lt {row : Nat} : ∀ e, e ≤ 5 → dmk row e < 2 ^ 20
  | 0, _ => by
    show 0 < 2 ^ 20
    decide
  | e + 1, he => by
    have ih := dmk_lt (row := row) e (by omega)
    rw [dmk]
    by_cases z : dgN row e < 4
    · rw [if_pos z]
      exact Nat.or_lt_two_pow ih (Nat.pow_lt_pow_right (by decide) (by omega))
    · rw [if_neg z]
      exact ih
theorem dmk_b {row s e' : Nat} (s4 : s < 4) (e5 : e' < 5) : ∀ e, e ≤ 5 → (dmk row e).testBit (s * 5 + e') = (decide (e' < e) && decide (dgN row e' = s))
  | 0, _ => by rw [dmk, Nat.zero_testBit, decide_eq_false (by omega), Bool.false_and]
  | e + 1, he => by
    have ih := dmk_b (row := row) s4 e5 e (by omega)
    rw [dmk]
    by_cases z : dgN row e < 4
    · rw [if_pos z, Nat.testBit_or, ih]
      by_cases y : dgN row e * 5 + e = s * 5 + e'
      · have y1 : e' = e := by omega
        have y2 : dgN row e = s := by omega
        rw [y, Nat.testBit_two_pow_self, Bool.or_true, decide_eq_true (show e' < e + 1 by omega), y1, decide_eq_true y2]
        rfl
      · rw [Nat.testBit_two_pow_of_ne y, Bool.or_false]
        by_cases u : e' = e
        · rw [u, decide_eq_false (show ¬ e < e by omega), decide_eq_false (show ¬ dgN row e = s from fun v => y (by rw [v, u])), Bool.and_false, Bool.and_false]
        · rw [show decide (e' < e + 1) = decide (e' < e) from decide_eq_decide.mpr (by omega)]
    · rw [if_neg z, ih]
      by_cases u : e' = e
      · rw [u, decide_eq_false (show ¬ dgN row e = s by omega), Bool.and_false, Bool.and_false]
      · rw [show decide (e' < e + 1) = decide (e' < e) from decide_eq_decide.mpr (by omega)]
def dsR (row s : Nat) : Nat := dmk row 5 / 2 ^ (s * 5) % 2 ^ 5
theorem dsR_b {row s e : Nat} (s4 : s < 4) : (dsR row s).testBit e = (decide (e < 5) && decide (dgN row e = s)) := by
  rw [dsR, Nat.testBit_mod_two_pow, Nat.testBit_div_two_pow]
  by_cases z : e < 5
  · rw [decide_eq_true z, Bool.true_and, Nat.add_comm, dmk_b s4 z 5 (Nat.le_refl _), decide_eq_true z]
  · rw [decide_eq_false z, Bool.false_and, Bool.false_and]
section
variable {n c : Nat} {p S W : Nat → Nat} {tn : Nat → Nat → Nat}
def rV (n c : Nat) (p S W : Nat → Nat) (tn : Nat → Nat → Nat) (row : Nat) : Nat := rF n c p S W tn row 5 (2 ^ n - 1)
theorem rV_v (O : wnO n p S W) (ht : ∀ e s, e < 5 → s < 4 → tn e s ≤ 10) (row : Nat) : sN (fun s => vS n c p S W tn s (dsR row s)) 4 = rV n c p S W tn row := by
  have n8 := O.1
  rw [rV, rF_e O ht (A := 255) 5 (Nat.le_refl _) (2 ^ n - 1) (fun _ => 0) (fun s _ k hk _ => by
    rw [Ls, Nat.testBit_two_pow_sub_one, decide_eq_true hk]
    have : ∀ k, k < 8 → (255 : Nat).testBit k = true := by decide
    rw [this k (by omega)])]
  refine sN_cg 4 (fun s hs => ?_)
  have et : tD tn s (dsR row s) = fun e => if e < 5 then tS tn row s e else 0 := by
    funext e
    rw [tD, dsR_b hs, tS]
    by_cases z : e < 5
    · rw [decide_eq_true z, Bool.true_and, if_pos z]
      by_cases y : dgN row e = s
      · rw [decide_eq_true y, if_pos rfl, if_pos y]
      · rw [decide_eq_false y, if_neg (by decide), if_neg y]
    · rw [decide_eq_false z, Bool.false_and, if_neg (by decide), if_neg z]
  rw [vS, et, od_w, eS]
  have : wtN n c p S W 255 s 0 = 0 := rfl
  rw [this]
  omega
theorem rF_ub (O : wnO n p S W) (ht : ∀ e s, e < 5 → s < 4 → tn e s ≤ 10) {row : Nat} : ∀ r lf, r ≤ 5 → rF n c p S W tn row r lf ≤ r * (792 * 10 ^ r)
  | 0, _, _ => by rw [rF]; omega
  | r + 1, lf, hr => by
    have ih := fun lf => rF_ub O ht (row := row) r lf (by omega)
    have e : (r + 1) * (792 * 10 ^ (r + 1)) = 10 * (792 * 10 ^ r + r * (792 * 10 ^ r)) := by
      rw [Nat.pow_succ, Nat.succ_mul]
      have : r * (792 * (10 ^ r * 10)) = 10 * (r * (792 * 10 ^ r)) := by
        rw [← Nat.mul_assoc 792, ← Nat.mul_assoc r, Nat.mul_comm _ 10]
      omega
    rw [rF, e]
    by_cases z : dgN row (4 - r) = 4
    · rw [if_pos z]
      have := ih lf
      omega
    · rw [if_neg z]
      have s4 : dgN row (4 - r) < 4 := by
        have : dgN row (4 - r) < 5 := Nat.mod_lt _ (by decide)
        omega
      exact bw_ub O (ht (4 - r) _ (by omega) s4) ih
theorem rF_lt (O : wnO n p S W) (ht : ∀ e s, e < 5 → s < 4 → tn e s ≤ 10) {row r lf : Nat} (hr : r ≤ 5) : rF n c p S W tn row r lf < 500000000 := by
  have := rF_ub O ht (c := c) (row := row) r lf hr
  have h2 : (10 : Nat) ^ r ≤ 10 ^ 5 := Nat.pow_le_pow_right (by decide) hr
  have h3 : 792 * 10 ^ r ≤ 792 * 10 ^ 5 := Nat.mul_le_mul_left _ h2
  have h4 : r * (792 * 10 ^ r) ≤ 5 * (792 * 10 ^ 5) := Nat.mul_le_mul hr h3
  omega
/-- the first row that is worth the most -/
def brB (v : Nat → Nat) (row : Nat) : Option Nat → Bool
  | none => true
  | some m => decide (m < v row)
def brS (v : Nat → Nat) : Nat → Nat × Option Nat
  | 0 => (0, none)
  | row + 1 => if brB v row (brS v row).2 = true then (row, some (v row)) else brS v row
def oL : Option Nat → Int64
  | none => -1
  | some m => lN m
theorem brS_b {v : Nat → Nat} {B : Nat} (hv : ∀ r, v r < B) : ∀ row, ((brS v row).1 ≤ row) ∧ ∀ m, (brS v row).2 = some m → m < B
  | 0 => ⟨Nat.le_refl _, fun m z => by cases z⟩
  | row + 1 => by
    obtain ⟨h1, h2⟩ := brS_b hv row
    rw [brS]
    by_cases z : brB v row (brS v row).2 = true
    · rw [if_pos z]
      exact ⟨by show row ≤ row + 1; omega, fun m y => by injection y with y; rw [← y]; exact hv row⟩
    · rw [if_neg z]
      exact ⟨by omega, h2⟩
theorem brS_s {v : Nat → Nat} : ∀ row, 0 < row → ∃ m, (brS v row).2 = some m
  | 0, h => absurd h (by omega)
  | row + 1, _ => by
    rw [brS]
    by_cases z : brB v row (brS v row).2 = true
    · rw [if_pos z]; exact ⟨_, rfl⟩
    · rw [if_neg z]
      cases e : (brS v row).2 with
      | none => rw [e] at z; exact absurd rfl z
      | some m => exact ⟨m, rfl⟩
theorem brB_c {v : Nat → Nat} {B row : Nat} (hB : B ≤ 2 ^ 61) (hv : ∀ r, v r < B) {o : Option Nat} (ho : ∀ m, o = some m → m < B) : (0 < lg_cmp (lN (v row)) (oL o)) ↔ brB v row o = true := by
  have hr := hv row
  cases o with
  | none =>
    rw [lg_cmp_gt, brB]
    refine ⟨fun _ => rfl, fun _ => ?_⟩
    rw [oL, Int64.lt_iff_toInt_lt, tI_lN (by omega), show (-1 : Int64).toInt = -1 from rfl]
    omega
  | some m =>
    have := ho m rfl
    rw [lg_cmp_gt, oL, brB, decide_eq_true_eq, lN_lt' (by omega) (by omega)]
end
section
variable {X : av_X} {d : Nat} {n c : Nat} {p S W : Nat → Nat} {tn : Nat → Nat → Nat} {h0 : av_H}
theorem c_digit {h : av_H} (T : XT X) (hL : h.1.length ≤ 1000000) {row e : Nat} (hr : row < 3125) (e5 : e < 5) : ev X (d + 2) 57 [vi (nI row), vi (nI e)] h = av_rI (nI (dgN row e)) h := by
  have pb := p5_b (e := e)
  have dl : row / 5 ^ (4 - e) ≤ row := Nat.div_le_self _ _
  rw [e_57, b_57_0, T.len2 hL, Option.bind_some, c_below', toI_nI (by decide), show rg (nI e) 0 (((5 : Nat) : Int) - 1) = true from rg_lt2 (n := 4) (by omega) (by omega), if_neg (show ¬ bI true = 0 by decide), T.ld2 hL e5, Option.bind_some, if_neg (nI_ne0 (by omega) (by omega)), if_neg (by decide), pk_div (by omega) (by omega) (by omega), show (5 : Int32) = nI 5 from rfl, pk_rem (by omega) (by omega) (by omega)]
  rfl
theorem rw_d {h : av_H} (T : XT X) (hL : h.1.length ≤ 1000000) {row : Nat} (hr : row < 3125) : ∀ m e, e + m = 5 → bd X (d + 2) 60 4 [(0, vr (some 46)), (1, vi (nI row)), (2, vi (nI (dmk row e))), (3, vi (nI e))] [] h = bd X (d + 2) 60 32 [(0, vr (some 46)), (2, vi (nI (dmk row 5))), (3, vl 0), (5, vi 0)] [] h
  | 0, e, he => by
    obtain rfl : e = 5 := by omega
    rw [b_60_4, if_neg (show ¬ nI 5 < 5 by decide)]
  | m + 1, e, he => by
    have ih := rw_d T hL hr m (e + 1) (by omega)
    have d5 : dgN row e < 5 := Nat.mod_lt _ (by decide)
    rw [dmk] at ih
    rw [b_60_4, if_pos (show nI e < 5 from nI_lt (b := 5) (by omega) (by omega)), c_digit T hL hr (by omega), av_cI_r, Option.bind_some, nI_1]
    by_cases z : dgN row e < 4
    · rw [if_pos z] at ih
      rw [if_pos (show nI (dgN row e) < 4 from nI_lt (b := 4) z (by omega)), show (5 : Int32) = nI 5 from rfl, pk_mul, nI_add, nb_sh1 _ (by omega), nb_or]
      exact ih
    · rw [if_neg z] at ih
      rw [if_neg (show ¬ nI (dgN row e) < 4 from nI_nlt (b := 4) (by omega) (by omega)), or0I]
      exact ih
theorem rw_t {h : av_H} (w : WF h) (H : ∀ s x, s < 4 → x < 32 → h.2.2.1 53 (s * 32 + x) = lN (vS n c p S W tn s x)) {row : Nat} : ∀ m s, s + m = 4 → bd X (d + 2) 60 32 [(0, vr (some 46)), (2, vi (nI (dmk row 5))), (3, vl (lN (sN (fun s => vS n c p S W tn s (dsR row s)) s))), (5, vi (nI s))] [] h = av_rL (lN (sN (fun s => vS n c p S W tn s (dsR row s)) 4)) h
  | 0, s, hs => by
    obtain rfl : s = 4 := by omega
    rw [b_60_32, if_neg (show ¬ nI 4 < 4 by decide)]
  | m + 1, s, hs => by
    have ih := rw_t w H (row := row) m (s + 1) (by omega)
    have dl := dmk_lt (row := row) 5 (Nat.le_refl _)
    have xl : dsR row s < 32 := Nat.mod_lt _ (by decide)
    have e31 : ∀ x : Nat, nI x &&& (31 : Int32) = nI (x % 2 ^ 5) := fun x => by
      rw [show (31 : Int32) = nI (2 ^ 5 - 1) from rfl, nb_and, Nat.and_two_pow_sub_one_eq_mod]
    rw [sN] at ih
    rw [b_60_32, if_pos (show nI s < 4 from nI_lt (b := 4) (by omega) (by omega)), gR_46_11 w, show (5 : Int32) = nI 5 from rfl, pk_mul, nb_shr (by omega) (by omega), e31, show (32 : Int32) = nI 32 from rfl, pk_mul, show dmk row 5 / 2 ^ (s * 5) % 2 ^ 5 = dsR row s from rfl, nI_add, ld_53 w (by omega), H s _ (by omega) xl, lN_add, nI_1]
    exact ih
theorem c_rowW {h : av_H} (T : XT X) (w : WF h) (hL : h.1.length ≤ 1000000) (O : wnO n p S W) (ht : ∀ e s, e < 5 → s < 4 → tn e s ≤ 10) (H : ∀ s x, s < 4 → x < 32 → h.2.2.1 53 (s * 32 + x) = lN (vS n c p S W tn s x)) {row : Nat} (hr : row < 3125) : ev X (d + 3) 60 [vr (some 46), vi (nI row)] h = av_rL (lN (rV n c p S W tn row)) h := by
  rw [e_60, b_60_0, ← rV_v O ht]
  exact (rw_d (d := d) T hL hr 5 0 (by omega)).trans (rw_t (d := d) w H 4 0 (by omega))
theorem rb_lp (T : XT X) (hL : h0.1.length ≤ 1000000) (O : wnO n p S W) (ht : ∀ e s, e < 5 → s < 4 → tn e s ≤ 10) : ∀ m row h, row + m = 3125 → WF h → off false [53, 54, 55] [(46, 14), (46, 15)] h0 h → h.1 = h0.1 → (∀ s x, s < 4 → x < 32 → h.2.2.1 53 (s * 32 + x) = lN (vS n c p S W tn s x)) → h.2.1 46 14 = nI (brS (rV n c p S W tn) row).1 → h.2.2.1 46 15 = oL (brS (rV n c p S W tn) row).2 → ∃ h', WF h' ∧ off false [53, 54, 55] [(46, 14), (46, 15)] h0 h' ∧ h'.1 = h0.1 ∧ h'.2.1 46 14 = nI (brS (rV n c p S W tn) 3125).1 ∧ h'.2.2.1 46 15 = oL (brS (rV n c p S W tn) 3125).2 ∧ bd X (d + 3) 59 40 [(0, vr (some 46)), (2, vi (nI row))] [] h = av_rV h'
  | 0, row, h, hr, w, O1, l1, H, H1, H2 => by
    obtain rfl : row = 3125 := by omega
    exact ⟨h, w, O1, l1, H1, H2, by rw [b_59_40, if_neg (show ¬ nI 3125 < 3125 by decide)]⟩
  | m + 1, row, h, hr, w, O1, l1, H, H1, H2 => by
    have vb : ∀ r, rV n c p S W tn r < 500000000 := fun r => rF_lt O ht (Nat.le_refl _)
    have bb := brS_b vb row
    have cmp := brB_c (row := row) (by decide) vb bb.2
    have ev1 := c_rowW (X := X) (d := d) T w (by rw [l1]; exact hL) O ht H (show row < 3125 by omega)
    by_cases z : brB (rV n c p S W tn) row (brS (rV n c p S W tn) row).2 = true
    · obtain ⟨h', w', O', l', X1, X2, e'⟩ := rb_lp T hL O ht m (row + 1) (av_uL (av_uI h 46 14 (nI row)) 46 15 (lN (rV n c p S W tn row))) (by omega) (WF_uL (WF_uI w)) (agr.uL rfl (agr.uI rfl O1)) l1 H (by
        rw [brS, if_pos z]
        show (av_uI h 46 14 (nI row)).2.1 46 14 = nI row
        exact uI_eq) (by
        rw [brS, if_pos z]
        exact uL_eq)
      refine ⟨h', w', O', l', X1, X2, ?_⟩
      rw [b_59_40, if_pos (show nI row < 3125 from nI_lt (b := 3125) (by omega) (by omega)), is_46 w, ev1, av_cL_r, Option.bind_some, gL_46_15 w, H2, if_pos (cmp.mpr z), pI_46 w, pL_46 (WF_uI w), nI_1]
      exact e'
    · obtain ⟨h', w', O', l', X1, X2, e'⟩ := rb_lp T hL O ht m (row + 1) h (by omega) w O1 l1 H (by
        rw [brS, if_neg z]
        exact H1) (by
        rw [brS, if_neg z]
        exact H2)
      refine ⟨h', w', O', l', X1, X2, ?_⟩
      rw [b_59_40, if_pos (show nI row < 3125 from nI_lt (b := 3125) (by omega) (by omega)), is_46 w, ev1, av_cL_r, Option.bind_some, gL_46_15 w, H2, if_neg (fun y => z (cmp.mp y)), nI_1]
      exact e'
end
