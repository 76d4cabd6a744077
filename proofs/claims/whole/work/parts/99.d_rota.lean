/-! rota -/
def ahB (P Q : Nat → Int32) (a b : Nat) : Bool := if P a = P b then decide (Q a < Q b) else decide (P a < P b)
def nxb (P Q : Nat → Int32) (p : Nat) : Option Nat → Bool
  | none => true
  | some f => ahB P Q p f
/-- who is next -/
def nx (fr : Nat → Bool) (P Q : Nat → Int32) : Nat → Option Nat
  | 0 => none
  | p + 1 => if (fr p && nxb P Q p (nx fr P Q p)) = true then some p else nx fr P Q p
theorem nx_lt {fr : Nat → Bool} {P Q : Nat → Int32} {p : Nat} : ∀ n, nx fr P Q n = some p → p < n ∧ fr p = true
  | 0, z => by cases z
  | n + 1, z => by
    rw [nx] at z
    by_cases q : (fr n && nxb P Q n (nx fr P Q n)) = true
    · rw [if_pos q] at z
      injection z with z
      rw [Bool.and_eq_true] at q
      rw [← z]
      exact ⟨by omega, q.1⟩
    · rw [if_neg q] at z
      have := nx_lt n z
      exact ⟨by omega, this.2⟩
def frB (aw : Nat → Nat) (w : Nat) (o : Option Nat) (p : Nat) : Bool := !decide (o = some p) && !(aw p).testBit w
def nx2 (aw : Nat → Nat) (w : Nat) (P Q : Nat → Int32) (n : Nat) : Option Nat → Option Nat
  | none => none
  | some o => nx (frB aw w (some o)) P Q n
def putP (P : Nat → Int32) : Option Nat → Nat → Int32
  | none => P
  | some o => upd P o (P o + 1)
def putQ (Q : Nat → Int32) (w : Nat) : Option Nat → Nat → Int32
  | none => Q
  | some o => upd Q o (nI w)
def bmO : Option Nat → Nat
  | none => 0
  | some o => 2 ^ o
def wkS (aw : Nat → Nat) (n : Nat) : Nat → (Nat → Int32) × (Nat → Int32) × Nat
  | 0 => (fun _ => 0, fun _ => -1, 0)
  | w + 1 =>
    (putP (putP (wkS aw n w).1 (nx (frB aw w none) (wkS aw n w).1 (wkS aw n w).2.1 n)) (nx2 aw w (wkS aw n w).1 (wkS aw n w).2.1 n (nx (frB aw w none) (wkS aw n w).1 (wkS aw n w).2.1 n)),
     putQ (putQ (wkS aw n w).2.1 w (nx (frB aw w none) (wkS aw n w).1 (wkS aw n w).2.1 n)) w (nx2 aw w (wkS aw n w).1 (wkS aw n w).2.1 n (nx (frB aw w none) (wkS aw n w).1 (wkS aw n w).2.1 n)),
     bmO (nx (frB aw w none) (wkS aw n w).1 (wkS aw n w).2.1 n) ||| bmO (nx2 aw w (wkS aw n w).1 (wkS aw n w).2.1 n (nx (frB aw w none) (wkS aw n w).1 (wkS aw n w).2.1 n)))
theorem oI_eq {p : Nat} {o : Option Nat} (hp : p < 10) (ho : ∀ q, o = some q → q < 10) : (nI p = oI o) ↔ o = some p := by
  cases o with
  | none =>
    constructor
    · intro z
      have := congrArg Int32.toInt z
      rw [oI_n, toI_nI (by omega), show (-1 : Int32).toInt = -1 from rfl] at this
      omega
    · intro z
      cases z
  | some q =>
    have := ho q rfl
    rw [oI_s, nI_eq (by omega) (by omega)]
    constructor
    · intro z; rw [z]
    · intro z; injection z with z; exact z.symm
theorem oI_m1 {o : Option Nat} (ho : ∀ q, o = some q → q < 10) : (oI o = -1) ↔ o = none := by
  cases o with
  | none => exact ⟨fun _ => rfl, fun _ => rfl⟩
  | some q =>
    have := ho q rfl
    constructor
    · intro z
      have := congrArg Int32.toInt z
      rw [oI_s, toI_nI (by omega), show (-1 : Int32).toInt = -1 from rfl] at this
      omega
    · intro z
      cases z
theorem oI_ng {o : Option Nat} (ho : ∀ q, o = some q → q < 10) : (oI o < 0) ↔ o = none := by
  cases o with
  | none => exact ⟨fun _ => rfl, fun _ => by decide⟩
  | some q =>
    have := ho q rfl
    exact ⟨fun z => absurd z (nI_pos (by omega)), fun z => by cases z⟩
section
variable {X : av_X} {d : Nat} {h : av_H}
theorem c_ahead (w : WF h) {P Q : Nat → Int32} (HP : ∀ p, p < 10 → h.2.1 35 p = P p) (HQ : ∀ p, p < 10 → h.2.1 36 p = Q p) {a b : Nat} (ha : a < 10) (hb : b < 10) : ev X (d + 1) 38 [vr (some 27), vi (nI a), vi (nI b)] h = av_rI (bI (ahB P Q a b)) h := by
  rw [e_38, b_38_0, gR_27_9 w, ld_35 w ha, HP a ha, gR_27_9 w, ld_35 w hb, HP b hb, ahB]
  by_cases q : P a = P b
  · rw [if_pos q, if_pos q, gR_27_10 w, ld_36 w ha, HQ a ha, gR_27_10 w, ld_36 w hb, HQ b hb]
    by_cases z : Q a < Q b
    · rw [if_pos z, decide_eq_true z]
      rfl
    · rw [if_neg z, decide_eq_false z]
      rfl
  · rw [if_neg q, if_neg q, gR_27_9 w, ld_35 w ha, HP a ha, gR_27_9 w, ld_35 w hb, HP b hb]
    by_cases z : P a < P b
    · rw [if_pos z, decide_eq_true z]
      rfl
    · rw [if_neg z, decide_eq_false z]
      rfl
theorem cn_lp (w : WF h) {P Q : Nat → Int32} {aw : Nat → Nat} {n wk : Nat} {o : Option Nat} (HA : ∀ p, p < 10 → aw p < 1048576 ∧ h.2.1 31 p = nI (aw p)) (HP : ∀ p, p < 10 → h.2.1 35 p = P p) (HQ : ∀ p, p < 10 → h.2.1 36 p = Q p) (n10 : n ≤ 10) (w20 : wk < 20) (ho : ∀ q, o = some q → q < 10) : ∀ k p, p + k = n → bd X (d + 2) 37 4 [(0, vr (some 27)), (1, vi (nI n)), (2, vi (nI wk)), (3, vi (oI o)), (4, vi (oI (nx (frB aw wk o) P Q p))), (5, vi (nI p))] [] h = av_rI (oI (nx (frB aw wk o) P Q n)) h
  | 0, p, hp => by
    obtain rfl : p = n := by omega
    rw [b_37_4, if_neg (nI_nlt (by omega) (by omega))]
  | k + 1, p, hp => by
    have ih := cn_lp w HA HP HQ n10 w20 ho k (p + 1) (by omega)
    obtain ⟨a1, a2⟩ := HA p (by omega)
    have nb : ∀ q, nx (frB aw wk o) P Q p = some q → q < 10 := fun q z => by have := (nx_lt p z).1; omega
    rw [nx, frB] at ih
    have no : bd X (d + 2) 37 4 [(0, vr (some 27)), (1, vi (nI n)), (2, vi (nI wk)), (3, vi (oI o)), (4, vi (oI (nx (frB aw wk o) P Q p))), (5, vi (nI (p + 1)))] [] h = av_rI (oI (nx (frB aw wk o) P Q n)) h → bd X (d + 2) 37 22 [(0, vr (some 27)), (1, vi (nI n)), (2, vi (nI wk)), (3, vi (oI o)), (4, vi (oI (nx (frB aw wk o) P Q p))), (5, vi (nI p))] [] h = av_rI (oI (nx (frB aw wk o) P Q n)) h := fun ih => by
      rw [b_37_22, b_37_23, if_pos rfl, nI_1]
      exact ih
    rw [b_37_4, if_pos (nI_lt (by omega) (by omega)), if_pos (show nI p < 10 from nI_lt (b := 10) (by omega) (by omega))]
    by_cases q : o = some p
    · rw [decide_eq_true q, Bool.not_true, Bool.false_and, Bool.false_and, if_neg (by decide)] at ih
      rw [if_pos ((oI_eq (by omega) ho).mpr q)]
      exact no ih
    · rw [decide_eq_false q, Bool.not_false, Bool.true_and] at ih
      rw [if_neg (fun z => q ((oI_eq (by omega) ho).mp z)), gR_27_5 w, ld_31 w (by omega), a2, c_hasBit' (by omega) (by omega)]
      cases z : (aw p).testBit wk with
      | true =>
        rw [z, Bool.not_true, Bool.false_and, if_neg (by decide)] at ih
        rw [if_neg (show ¬ bI true = 0 by decide)]
        exact no ih
      | false =>
        rw [z, Bool.not_false, Bool.true_and] at ih
        rw [if_pos (show bI false = 0 from rfl), b_37_23, if_neg (show ¬ (1 : Int32) = 0 by decide), nI_1]
        cases y : nx (frB aw wk o) P Q p with
        | none =>
          rw [y, nxb, if_pos rfl, oI_s] at ih
          rw [if_pos (show oI none = -1 from rfl)]
          exact ih
        | some f =>
          have f10 := nb f y
          rw [y, nxb] at ih
          rw [if_neg (fun z => by rw [oI_m1 (fun q e => by injection e with e; omega)] at z; cases z), is_27 w, oI_s, c_ahead w HP HQ (by omega) f10, av_cI_r, Option.bind_some]
          cases u : ahB P Q p f with
          | true =>
            rw [u, if_pos rfl, oI_s] at ih
            rw [if_neg (show ¬ bI true = 0 by decide)]
            exact ih
          | false =>
            rw [u, if_neg (by decide), oI_s] at ih
            rw [if_pos (show bI false = 0 from rfl)]
            exact ih
theorem c_nx (w : WF h) {P Q : Nat → Int32} {aw : Nat → Nat} {n wk : Nat} {o : Option Nat} (HA : ∀ p, p < 10 → aw p < 1048576 ∧ h.2.1 31 p = nI (aw p)) (HP : ∀ p, p < 10 → h.2.1 35 p = P p) (HQ : ∀ p, p < 10 → h.2.1 36 p = Q p) (n10 : n ≤ 10) (w20 : wk < 20) (ho : ∀ q, o = some q → q < 10) : ev X (d + 3) 37 [vr (some 27), vi (nI n), vi (nI wk), vi (oI o)] h = av_rI (oI (nx (frB aw wk o) P Q n)) h := by
  rw [e_37, b_37_0]
  exact cn_lp w HA HP HQ n10 w20 ho n 0 (by omega)
theorem c_put (w : WF h) {P Q : Nat → Int32} {wk : Nat} {o : Option Nat} (HP : ∀ p, p < 10 → h.2.1 35 p = P p) (HQ : ∀ p, p < 10 → h.2.1 36 p = Q p) (ho : ∀ q, o = some q → q < 10) : ∃ h', WF h' ∧ off false [35, 36] [] h h' ∧ (∀ p, p < 10 → h'.2.1 35 p = putP P o p) ∧ (∀ p, p < 10 → h'.2.1 36 p = putQ Q wk o p) ∧ ev X (d + 3) 39 [vr (some 27), vi (oI o), vi (nI wk)] h = av_rI (nI (bmO o)) h' := by
  cases o with
  | none =>
    refine ⟨h, w, agr.rfl, HP, HQ, ?_⟩
    rw [e_39, b_39_0, c_isPerson', show rg (oI none) 0 9 = false from by decide, if_pos (show bI false = 0 from rfl)]
    rfl
  | some q =>
    have q10 := ho q rfl
    have w1 : WF (av_uI h 35 q (P q + 1)) := w
    refine ⟨av_uI (av_uI h 35 q (P q + 1)) 36 q (nI wk), w, agr.uI rfl (agr.uI rfl agr.rfl), fun p hp => ?_, fun p hp => ?_, ?_⟩
    · rw [uI_ne (by decide), putP]
      by_cases z : p = q
      · rw [z, uI_eq, pk_us]
      · rw [uI_nk z, pk_un z]
        exact HP p hp
    · rw [putQ]
      by_cases z : p = q
      · rw [z, uI_eq, pk_us]
      · rw [uI_nk z, pk_un z, uI_ne (by decide)]
        exact HQ p hp
    · rw [e_39, b_39_0, oI_s, c_isPerson', show rg (nI q) 0 9 = true from rg_lt2 (n := 9) (by omega) (by omega), if_neg (show ¬ bI true = 0 by decide), gR_27_9 w, ld_35 w q10, HP q q10, st_35 w q10, gR_27_10 w1, st_36 w1 q10, nb_sh1 q (by omega)]
      rfl
theorem nx2_b {aw : Nat → Nat} {wk n : Nat} {P Q : Nat → Int32} {o : Option Nat} (n10 : n ≤ 10) : ∀ q, nx2 aw wk P Q n o = some q → q < n := fun q z => by
  cases o with
  | none => cases z
  | some f => exact (nx_lt n z).1
theorem c_wk {h0 : av_H} {aw : Nat → Nat} {n wl : Nat} (HA : ∀ p, p < 10 → aw p < 1048576 ∧ h0.2.1 31 p = nI (aw p)) (n10 : n ≤ 10) (w20 : wl < 20) : ∀ k wk h, wk + k = wl + 1 → WF h → off false [35, 36] [] h0 h → (∀ p, p < 10 → h.2.1 35 p = (wkS aw n wk).1 p) → (∀ p, p < 10 → h.2.1 36 p = (wkS aw n wk).2.1 p) → ∃ h', WF h' ∧ off false [35, 36] [] h0 h' ∧ bd X (d + 3) 36 12 [(0, vr (some 27)), (1, vi (nI n)), (2, vi (nI wl)), (3, vi (nI (wkS aw n wk).2.2)), (4, vi (nI wk))] [] h = av_rI (nI (wkS aw n (wl + 1)).2.2) h'
  | 0, wk, h, hk, w, O, HP, HQ => by
    obtain rfl : wk = wl + 1 := by omega
    refine ⟨h, w, O, ?_⟩
    rw [b_36_12, if_pos (nI_lt (by omega) (by omega))]
  | k + 1, wk, h, hk, w, O, HP, HQ => by
    have A31 := O.fr (q := false) (cs := [31]) (fs := []) (by decide)
    have HA' : ∀ p, p < 10 → aw p < 1048576 ∧ h.2.1 31 p = nI (aw p) := fun p hp => ⟨(HA p hp).1, (A31.I rfl).trans (HA p hp).2⟩
    have n1 := c_nx (X := X) (d := d) (o := none) w HA' HP HQ n10 (show wk < 20 by omega) (fun q z => by cases z)
    have b1 : ∀ q, nx (frB aw wk none) (wkS aw n wk).1 (wkS aw n wk).2.1 n = some q → q < 10 := fun q z => by have := (nx_lt n z).1; omega
    obtain ⟨h1, w1, o1, P1, Q1, e1⟩ := c_put (X := X) (d := d) (wk := wk) w HP HQ b1
    have b2 : ∀ q, nx2 aw wk (wkS aw n wk).1 (wkS aw n wk).2.1 n (nx (frB aw wk none) (wkS aw n wk).1 (wkS aw n wk).2.1 n) = some q → q < 10 := fun q z => by have := nx2_b n10 q z; omega
    obtain ⟨h2, w2, o2, P2, Q2, e2⟩ := c_put (X := X) (d := d) (wk := wk) w1 P1 Q1 b2
    obtain ⟨h3, w3, o3, e3⟩ := c_wk HA n10 w20 k (wk + 1) h2 (by omega) w2 (agr.tr O (agr.tr o1 o2)) P2 Q2
    refine ⟨h3, w3, o3, ?_⟩
    have k31 : bd X (d + 3) 36 31 [(0, vr (some 27)), (1, vi (nI n)), (2, vi (nI wl)), (4, vi (nI wk)), (5, vi (oI (nx (frB aw wk none) (wkS aw n wk).1 (wkS aw n wk).2.1 n)))] [vi (oI (nx2 aw wk (wkS aw n wk).1 (wkS aw n wk).2.1 n (nx (frB aw wk none) (wkS aw n wk).1 (wkS aw n wk).2.1 n)))] h = av_rI (nI (wkS aw n (wl + 1)).2.2) h3 := by
      rw [b_36_31, is_27 w, e1, av_cI_r, Option.bind_some, is_27 w1, e2, av_cI_r, Option.bind_some, nb_or, nI_1]
      exact e3
    rw [b_36_12, if_neg (nI_nlt (by omega) (by omega)), is_27 w, show (-1 : Int32) = oI none from rfl, n1, av_cI_r, Option.bind_some]
    cases z : nx (frB aw wk none) (wkS aw n wk).1 (wkS aw n wk).2.1 n with
    | none =>
      rw [z] at k31
      rw [if_pos rfl]
      exact k31
    | some f =>
      have f10 := b1 f z
      rw [z] at k31
      have n2 := c_nx (X := X) (d := d) (o := some f) w HA' HP HQ n10 (show wk < 20 by omega) (fun q z => by injection z with z; omega)
      rw [if_neg (fun y => by rw [show oI none = -1 from rfl, oI_m1 (fun q e => by injection e with e; omega)] at y; cases y), is_27 w, n2, av_cI_r, Option.bind_some]
      exact k31
/-! the reference -/
theorem sn_lp (w : WF h) {P Q : Nat → Int32} {aw : Nat → Nat} {n wk : Nat} {o : Option Nat} (HA : ∀ p, p < 10 → ∀ k, k < 20 → h.2.1 197 (20 * p + k) = bI ((aw p).testBit k)) (HP : ∀ p, p < 10 → h.2.1 198 p = P p) (HQ : ∀ p, p < 10 → h.2.1 199 p = Q p) (n10 : n ≤ 10) (w20 : wk < 20) (ho : ∀ q, o = some q → q < 10) : ∀ k p, p + k = n → bd X (d + 2) 342 4 [(0, vr (some 137)), (1, vi (nI n)), (2, vi (nI wk)), (3, vi (oI o)), (4, vi (oI (nx (frB aw wk o) P Q p))), (5, vi (nI p))] [] h = av_rI (oI (nx (frB aw wk o) P Q n)) h
  | 0, p, hp => by
    obtain rfl : p = n := by omega
    rw [b_342_4, if_neg (nI_nlt (by omega) (by omega))]
  | k + 1, p, hp => by
    have ih := sn_lp w HA HP HQ n10 w20 ho k (p + 1) (by omega)
    have nb : ∀ q, nx (frB aw wk o) P Q p = some q → q < 10 := fun q z => by have := (nx_lt p z).1; omega
    rw [nx, frB] at ih
    rw [b_342_4, if_pos (nI_lt (by omega) (by omega)), nI_1]
    by_cases q : o = some p
    · rw [decide_eq_true q, Bool.not_true, Bool.false_and, Bool.false_and, if_neg (by decide)] at ih
      rw [if_pos ((oI_eq (by omega) ho).mpr q)]
      exact ih
    · rw [decide_eq_false q, Bool.not_false, Bool.true_and] at ih
      rw [if_neg (fun z => q ((oI_eq (by omega) ho).mp z)), gR_137_77 w, show (20 : Int32) = nI 20 from rfl, pk_mul, nI_add, ld_197 w (by omega), HA p (by omega) wk w20]
      cases z : (aw p).testBit wk with
      | true =>
        rw [z, Bool.not_true, Bool.false_and, if_neg (by decide)] at ih
        rw [if_neg (show ¬ bI true = 0 by decide)]
        exact ih
      | false =>
        rw [z, Bool.not_false, Bool.true_and] at ih
        rw [if_pos (show bI false = 0 from rfl)]
        have y48 : ∀ v4, bd X (d + 2) 342 48 [(0, vr (some 137)), (1, vi (nI n)), (2, vi (nI wk)), (3, vi (oI o)), (4, vi v4), (5, vi (nI p))] [] h = bd X (d + 2) 342 4 [(0, vr (some 137)), (1, vi (nI n)), (2, vi (nI wk)), (3, vi (oI o)), (4, vi (nI p)), (5, vi (nI (p + 1)))] [] h := fun v4 => by
          rw [b_342_48, b_342_51, if_neg (show ¬ (1 : Int32) = 0 by decide), nI_1]
        have y50 : ∀ v4, bd X (d + 2) 342 50 [(0, vr (some 137)), (1, vi (nI n)), (2, vi (nI wk)), (3, vi (oI o)), (4, vi v4), (5, vi (nI p))] [] h = bd X (d + 2) 342 4 [(0, vr (some 137)), (1, vi (nI n)), (2, vi (nI wk)), (3, vi (oI o)), (4, vi v4), (5, vi (nI (p + 1)))] [] h := fun v4 => by
          rw [b_342_50, b_342_51, if_pos rfl, nI_1]
        cases y : nx (frB aw wk o) P Q p with
        | none =>
          rw [y, nxb, if_pos rfl, oI_s] at ih
          rw [if_pos (show oI none < 0 by decide), y48]
          exact ih
        | some f =>
          have f10 := nb f y
          rw [y, nxb, ahB] at ih
          rw [oI_s, if_neg (nI_pos (by omega)), gR_137_78 w, ld_198 w (by omega), HP p (by omega), gR_137_78 w, ld_198 w f10, HP f f10]
          by_cases u : P p = P f
          · have nlt : ¬ P p < P f := fun z => by rw [u] at z; exact i_irr _ z
            rw [if_pos u] at ih
            rw [if_neg nlt, gR_137_78 w, ld_198 w (by omega), HP p (by omega), gR_137_78 w, ld_198 w f10, HP f f10, if_pos u, gR_137_79 w, ld_199 w (by omega), HQ p (by omega), gR_137_79 w, ld_199 w f10, HQ f f10]
            by_cases u2 : Q p < Q f
            · rw [if_pos (decide_eq_true u2), oI_s] at ih
              rw [if_pos u2, y48]
              exact ih
            · rw [if_neg (by rw [decide_eq_false u2]; decide), oI_s] at ih
              rw [if_neg u2, y50]
              exact ih
          · rw [if_neg u] at ih
            by_cases u2 : P p < P f
            · rw [if_pos (decide_eq_true u2), oI_s] at ih
              rw [if_pos u2, y48]
              exact ih
            · rw [if_neg (by rw [decide_eq_false u2]; decide), oI_s] at ih
              rw [if_neg u2, gR_137_78 w, ld_198 w (by omega), HP p (by omega), gR_137_78 w, ld_198 w f10, HP f f10, if_neg u, y50]
              exact ih
theorem s_nx (w : WF h) {P Q : Nat → Int32} {aw : Nat → Nat} {n wk : Nat} {o : Option Nat} (HA : ∀ p, p < 10 → ∀ k, k < 20 → h.2.1 197 (20 * p + k) = bI ((aw p).testBit k)) (HP : ∀ p, p < 10 → h.2.1 198 p = P p) (HQ : ∀ p, p < 10 → h.2.1 199 p = Q p) (n10 : n ≤ 10) (w20 : wk < 20) (ho : ∀ q, o = some q → q < 10) : ev X (d + 3) 342 [vr (some 137), vi (nI n), vi (nI wk), vi (oI o)] h = av_rI (oI (nx (frB aw wk o) P Q n)) h := by
  rw [e_342, b_342_0]
  exact sn_lp w HA HP HQ n10 w20 ho n 0 (by omega)
theorem sp_lp {h0 : av_H} {P Q : Nat → Int32} {n wl wk Mk : Nat} (n10 : n ≤ 10) (hM : Mk < 1024) : ∀ k p h, p + k = n → WF h → off false [198, 199] [] h0 h → (∀ j, j < 10 → h.2.1 198 j = if j < p ∧ Mk.testBit j = true then P j + 1 else P j) → (∀ j, j < 10 → h.2.1 199 j = if j < p ∧ Mk.testBit j = true then nI wk else Q j) → ∃ h', WF h' ∧ off false [198, 199] [] h0 h' ∧ (∀ j, j < 10 → h'.2.1 198 j = if j < n ∧ Mk.testBit j = true then P j + 1 else P j) ∧ (∀ j, j < 10 → h'.2.1 199 j = if j < n ∧ Mk.testBit j = true then nI wk else Q j) ∧ bd X (d + 3) 343 73 [(0, vr (some 137)), (1, vi (nI n)), (2, vi (nI wl)), (3, vi (nI Mk)), (4, vi (nI wk)), (7, vi (nI p))] [] h = bd X (d + 3) 343 36 [(0, vr (some 137)), (1, vi (nI n)), (2, vi (nI wl)), (3, vi (nI Mk)), (4, vi (nI (wk + 1)))] [] h'
  | 0, p, h, hp, w, O, HP, HQ => by
    obtain rfl : p = n := by omega
    refine ⟨h, w, O, HP, HQ, ?_⟩
    rw [b_343_73, if_neg (nI_nlt (by omega) (by omega)), nI_1]
  | k + 1, p, h, hp, w, O, HP, HQ => by
    cases z : Mk.testBit p with
    | false =>
      obtain ⟨h', w', O', P', Q', e'⟩ := sp_lp (h0 := h0) (P := P) (Q := Q) (wl := wl) (wk := wk) n10 hM k (p + 1) h (by omega) w O (fun j hj => by
        rw [HP j hj]
        by_cases y : j < p ∧ Mk.testBit j = true
        · rw [if_pos y, if_pos ⟨by omega, y.2⟩]
        · rw [if_neg y, if_neg (fun u => by
            by_cases v : j = p
            · rw [v, z] at u; cases u.2
            · exact y ⟨by omega, u.2⟩)]) (fun j hj => by
        rw [HQ j hj]
        by_cases y : j < p ∧ Mk.testBit j = true
        · rw [if_pos y, if_pos ⟨by omega, y.2⟩]
        · rw [if_neg y, if_neg (fun u => by
            by_cases v : j = p
            · rw [v, z] at u; cases u.2
            · exact y ⟨by omega, u.2⟩)])
      refine ⟨h', w', O', P', Q', ?_⟩
      rw [b_343_73, if_pos (nI_lt (by omega) (by omega)), nb_bit (by omega) (by omega), z, if_neg (show ¬ bI false = 1 by decide), nI_1]
      exact e'
    | true =>
      have v1 : h.2.1 198 p = P p := by rw [HP p (by omega), if_neg (by omega)]
      have w1 : WF (av_uI h 198 p (P p + 1)) := w
      obtain ⟨h', w', O', P', Q', e'⟩ := sp_lp (h0 := h0) (P := P) (Q := Q) (wl := wl) (wk := wk) n10 hM k (p + 1) (av_uI (av_uI h 198 p (P p + 1)) 199 p (nI wk)) (by omega) w (agr.uI rfl (agr.uI rfl O)) (fun j hj => by
        rw [uI_ne (by decide)]
        by_cases v : j = p
        · rw [v, uI_eq, if_pos ⟨by omega, z⟩]
        · rw [uI_nk v, HP j hj]
          by_cases y : j < p ∧ Mk.testBit j = true
          · rw [if_pos y, if_pos ⟨by omega, y.2⟩]
          · rw [if_neg y, if_neg (fun u => y ⟨by omega, u.2⟩)]) (fun j hj => by
        by_cases v : j = p
        · rw [v, uI_eq, if_pos ⟨by omega, z⟩]
        · rw [uI_nk v, uI_ne (by decide), HQ j hj]
          by_cases y : j < p ∧ Mk.testBit j = true
          · rw [if_pos y, if_pos ⟨by omega, y.2⟩]
          · rw [if_neg y, if_neg (fun u => y ⟨by omega, u.2⟩)])
      refine ⟨h', w', O', P', Q', ?_⟩
      rw [b_343_73, if_pos (nI_lt (by omega) (by omega)), nb_bit (by omega) (by omega), z, if_pos (show bI true = 1 from rfl), gR_137_78 w, ld_198 w (by omega), v1, st_198 w (by omega), gR_137_79 w1, st_199 w1 (by omega), nI_1]
      exact e'
theorem bmO_lt {o : Option Nat} (ho : ∀ q, o = some q → q < 10) : bmO o < 1024 := by
  cases o with
  | none => decide
  | some q =>
    have := ho q rfl
    show 2 ^ q < 2 ^ 10
    exact Nat.pow_lt_pow_right (by decide) this
theorem bmO_bit {o : Option Nat} {j : Nat} : (bmO o).testBit j = decide (o = some j) := by
  cases o with
  | none => rw [bmO, Nat.zero_testBit, decide_eq_false (by intro z; cases z)]
  | some q =>
    rw [bmO]
    by_cases z : q = j
    · rw [z, Nat.testBit_two_pow_self, decide_eq_true rfl]
    · rw [Nat.testBit_two_pow_of_ne z, decide_eq_false (by intro y; injection y with y; exact z y)]
theorem put_eq {P Q : Nat → Int32} {n wk j : Nat} {a b : Option Nat} (ha : ∀ q, a = some q → q < n) (hb : ∀ q, b = some q → q < n) (ab : ∀ q, a = some q → b ≠ some q) : (if j < n ∧ (bmO a ||| bmO b).testBit j = true then P j + 1 else P j) = putP (putP P a) b j ∧ (if j < n ∧ (bmO a ||| bmO b).testBit j = true then nI wk else Q j) = putQ (putQ Q wk a) wk b j := by
  rw [Nat.testBit_or, bmO_bit, bmO_bit]
  have pn : ∀ (R : Nat → Int32) (o : Option Nat), o ≠ some j → putP R o j = R j ∧ putQ R wk o j = R j := fun R o z => by
    cases o with
    | none => exact ⟨rfl, rfl⟩
    | some q =>
      have : j ≠ q := fun y => z (by rw [y])
      exact ⟨pk_un this, pk_un this⟩
  by_cases z1 : a = some j
  · have z2 := ab j z1
    have jn := ha j z1
    rw [decide_eq_true z1, decide_eq_false z2, Bool.or_false, if_pos ⟨jn, rfl⟩, if_pos ⟨jn, rfl⟩, (pn _ _ z2).1, (pn _ _ z2).2, z1]
    exact ⟨pk_us.symm, pk_us.symm⟩
  · rw [decide_eq_false z1, Bool.false_or]
    by_cases z2 : b = some j
    · have jn := hb j z2
      rw [decide_eq_true z2, if_pos ⟨jn, rfl⟩, if_pos ⟨jn, rfl⟩, z2]
      constructor
      · show _ = upd (putP P a) j (putP P a j + 1) j
        rw [pk_us, (pn _ _ z1).1]
      · show _ = upd (putQ Q wk a) j (nI wk) j
        rw [pk_us]
    · rw [decide_eq_false z2, if_neg (fun y => by cases y.2), if_neg (fun y => by cases y.2), (pn _ _ z2).1, (pn _ _ z1).1, (pn _ _ z2).2, (pn _ _ z1).2]
      exact ⟨rfl, rfl⟩
theorem s_wk {h0 : av_H} {aw : Nat → Nat} {n wl : Nat} (HA : ∀ p, p < 10 → ∀ k, k < 20 → h0.2.1 197 (20 * p + k) = bI ((aw p).testBit k)) (n10 : n ≤ 10) (w20 : wl < 20) : ∀ k wk h, wk + k = wl + 1 → WF h → off false [198, 199] [] h0 h → (∀ p, p < 10 → h.2.1 198 p = (wkS aw n wk).1 p) → (∀ p, p < 10 → h.2.1 199 p = (wkS aw n wk).2.1 p) → ∃ h', WF h' ∧ off false [198, 199] [] h0 h' ∧ bd X (d + 3) 343 36 [(0, vr (some 137)), (1, vi (nI n)), (2, vi (nI wl)), (3, vi (nI (wkS aw n wk).2.2)), (4, vi (nI wk))] [] h = av_rI (nI (wkS aw n (wl + 1)).2.2) h'
  | 0, wk, h, hk, w, O, HP, HQ => by
    obtain rfl : wk = wl + 1 := by omega
    refine ⟨h, w, O, ?_⟩
    rw [b_343_36, if_pos (nI_lt (by omega) (by omega))]
  | k + 1, wk, h, hk, w, O, HP, HQ => by
    have A197 := O.fr (q := false) (cs := [197]) (fs := []) (by decide)
    have HA' : ∀ p, p < 10 → ∀ k, k < 20 → h.2.1 197 (20 * p + k) = bI ((aw p).testBit k) := fun p hp k hk => (A197.I rfl).trans (HA p hp k hk)
    have n1 := s_nx (X := X) (d := d) (o := none) w HA' HP HQ n10 (show wk < 20 by omega) (fun q z => by cases z)
    have a1 : ∀ q, nx (frB aw wk none) (wkS aw n wk).1 (wkS aw n wk).2.1 n = some q → q < n := fun q z => (nx_lt n z).1
    have b1 : ∀ q, nx (frB aw wk none) (wkS aw n wk).1 (wkS aw n wk).2.1 n = some q → q < 10 := fun q z => by have := (nx_lt n z).1; omega
    have a2 : ∀ q, nx2 aw wk (wkS aw n wk).1 (wkS aw n wk).2.1 n (nx (frB aw wk none) (wkS aw n wk).1 (wkS aw n wk).2.1 n) = some q → q < n := nx2_b n10
    have b2 : ∀ q, nx2 aw wk (wkS aw n wk).1 (wkS aw n wk).2.1 n (nx (frB aw wk none) (wkS aw n wk).1 (wkS aw n wk).2.1 n) = some q → q < 10 := fun q z => by have := nx2_b n10 q z; omega
    have ab : ∀ q, nx (frB aw wk none) (wkS aw n wk).1 (wkS aw n wk).2.1 n = some q → nx2 aw wk (wkS aw n wk).1 (wkS aw n wk).2.1 n (nx (frB aw wk none) (wkS aw n wk).1 (wkS aw n wk).2.1 n) ≠ some q := fun q z y => by
      rw [z, nx2] at y
      have f := (nx_lt n y).2
      rw [frB, decide_eq_true rfl] at f
      cases f
    have l1 := bmO_lt b1
    have l2 := bmO_lt b2
    have lm : bmO (nx (frB aw wk none) (wkS aw n wk).1 (wkS aw n wk).2.1 n) ||| bmO (nx2 aw wk (wkS aw n wk).1 (wkS aw n wk).2.1 n (nx (frB aw wk none) (wkS aw n wk).1 (wkS aw n wk).2.1 n)) < 1024 := Nat.or_lt_two_pow (n := 10) l1 l2
    obtain ⟨h2, w2, o2, P2, Q2, e2⟩ := sp_lp (X := X) (d := d) (h0 := h0) (P := (wkS aw n wk).1) (Q := (wkS aw n wk).2.1) (wl := wl) (wk := wk) n10 lm n 0 h (by omega) w O (fun j hj => by rw [if_neg (by omega)]; exact HP j hj) (fun j hj => by rw [if_neg (by omega)]; exact HQ j hj)
    obtain ⟨h3, w3, o3, e3⟩ := s_wk HA n10 w20 k (wk + 1) h2 (by omega) w2 o2 (fun p hp => (P2 p hp).trans (put_eq (Q := (wkS aw n wk).2.1) (wk := wk) a1 a2 ab).1) (fun p hp => (Q2 p hp).trans (put_eq (P := (wkS aw n wk).1) a1 a2 ab).2)
    refine ⟨h3, w3, o3, ?_⟩
    have k73 : bd X (d + 3) 343 54 [(0, vr (some 137)), (1, vi (nI n)), (2, vi (nI wl)), (4, vi (nI wk)), (5, vi (oI (nx (frB aw wk none) (wkS aw n wk).1 (wkS aw n wk).2.1 n)))] [vi (oI (nx2 aw wk (wkS aw n wk).1 (wkS aw n wk).2.1 n (nx (frB aw wk none) (wkS aw n wk).1 (wkS aw n wk).2.1 n)))] h = av_rI (nI (wkS aw n (wl + 1)).2.2) h3 := by
      have e4 := e2.trans e3
      generalize nx2 aw wk (wkS aw n wk).1 (wkS aw n wk).2.1 n (nx (frB aw wk none) (wkS aw n wk).1 (wkS aw n wk).2.1 n) = o2 at *
      generalize nx (frB aw wk none) (wkS aw n wk).1 (wkS aw n wk).2.1 n = o1 at *
      rw [b_343_54]
      cases o1 with
      | none =>
        rw [if_pos (show oI none < 0 by decide), b_343_62]
        cases o2 with
        | none =>
          rw [if_pos (show oI none < 0 by decide)]
          exact e4
        | some g =>
          have g10 := b2 g rfl
          rw [oI_s, if_neg (nI_pos (by omega)), nb_sh1 g (by omega), show (0 : Int32) = nI 0 from rfl, nb_or]
          exact e4
      | some f =>
        have f10 := b1 f rfl
        rw [oI_s, if_neg (nI_pos (by omega)), nb_sh1 f (by omega), b_343_62]
        cases o2 with
        | none =>
          rw [if_pos (show oI none < 0 by decide), show (0 : Int32) = nI 0 from rfl, nb_or]
          exact e4
        | some g =>
          have g10 := b2 g rfl
          rw [oI_s, if_neg (nI_pos (by omega)), nb_sh1 g (by omega), nb_or]
          exact e4
    rw [b_343_36, if_neg (nI_nlt (by omega) (by omega)), is_137 w, show (-1 : Int32) = oI none from rfl, n1, av_cI_r, Option.bind_some]
    cases z : nx (frB aw wk none) (wkS aw n wk).1 (wkS aw n wk).2.1 n with
    | none =>
      rw [z] at k73
      rw [if_pos (show oI none < 0 by decide)]
      exact k73
    | some f =>
      have f10 := b1 f z
      rw [z] at k73
      have n2 := s_nx (X := X) (d := d) (o := some f) w HA' HP HQ n10 (show wk < 20 by omega) (fun q z => by injection z with z; omega)
      rw [if_neg (show ¬ oI (some f) < 0 from nI_pos (by omega)), is_137 w, n2, av_cI_r, Option.bind_some]
      exact k73
theorem fill_35 {v : Int32} (w : WF h) : ∀ k i, i + k = 10 → bd X (d + 1) 383 5 [(0, vr (some 35)), (1, vi v), (2, vi (nI i)), (3, vi (nI 10))] [] (setC h 35 (cpF (h.2.1 35) 0 (fun _ => v) i)) = av_rV (setC h 35 (cpF (h.2.1 35) 0 (fun _ => v) 10))
  | 0, i, hi => by
    obtain rfl : i = 10 := by omega
    rw [b_383_5, if_neg (nI_nlt (by omega) (by omega))]
  | k + 1, i, hi => by
    have ih := fill_35 w (v := v) k (i + 1) (by omega)
    have w' : WF (setC h 35 (cpF (h.2.1 35) 0 (fun _ => v) i)) := w
    rw [← cpF_s, Nat.zero_add] at ih
    rw [b_383_5, if_pos (nI_lt (by omega) (by omega)), st_35 w' (by omega), setC_u, nI_1]
    exact ih
theorem fill_36 {v : Int32} (w : WF h) : ∀ k i, i + k = 10 → bd X (d + 1) 383 5 [(0, vr (some 36)), (1, vi v), (2, vi (nI i)), (3, vi (nI 10))] [] (setC h 36 (cpF (h.2.1 36) 0 (fun _ => v) i)) = av_rV (setC h 36 (cpF (h.2.1 36) 0 (fun _ => v) 10))
  | 0, i, hi => by
    obtain rfl : i = 10 := by omega
    rw [b_383_5, if_neg (nI_nlt (by omega) (by omega))]
  | k + 1, i, hi => by
    have ih := fill_36 w (v := v) k (i + 1) (by omega)
    have w' : WF (setC h 36 (cpF (h.2.1 36) 0 (fun _ => v) i)) := w
    rw [← cpF_s, Nat.zero_add] at ih
    rw [b_383_5, if_pos (nI_lt (by omega) (by omega)), st_36 w' (by omega), setC_u, nI_1]
    exact ih
theorem setC_sw {a b : Nat} {f g : Nat → Int32} (ne : a ≠ b) : setC (setC h a f) b g = setC (setC h b g) a f := by
  have : va_up (va_up h.2.1 a f) b g = va_up (va_up h.2.1 b g) a f := by
    funext c
    by_cases z : c = a
    · rw [z, va_up_ne _ _ ne, va_up_self, va_up_self]
    · by_cases y : c = b
      · rw [y, va_up_self, va_up_ne _ _ (fun u => ne u.symm), va_up_self]
      · rw [va_up_ne _ _ y, va_up_ne _ _ z, va_up_ne _ _ z, va_up_ne _ _ y]
  show (h.1, va_up (va_up h.2.1 a f) b g, h.2.2.1, h.2.2.2) = (h.1, va_up (va_up h.2.1 b g) a f, h.2.2.1, h.2.2.2)
  rw [this]
theorem s_z {n wl : Nat} (w : WF h) : ∀ k i, i + k = 10 → bd X (d + 1) 343 17 [(0, vr (some 137)), (1, vi (nI n)), (2, vi (nI wl)), (3, vi (nI i))] [] (setC (setC h 198 (cpF (h.2.1 198) 0 (fun _ => 0) i)) 199 (cpF (h.2.1 199) 0 (fun _ => -1) i)) = bd X (d + 1) 343 36 [(0, vr (some 137)), (1, vi (nI n)), (2, vi (nI wl)), (3, vi 0), (4, vi 0)] [] (setC (setC h 198 (cpF (h.2.1 198) 0 (fun _ => 0) 10)) 199 (cpF (h.2.1 199) 0 (fun _ => -1) 10))
  | 0, i, hi => by
    obtain rfl : i = 10 := by omega
    rw [b_343_17, if_neg (show ¬ nI 10 < 10 by decide)]
  | k + 1, i, hi => by
    have ih := s_z (n := n) (wl := wl) w k (i + 1) (by omega)
    have w' : WF (setC (setC h 198 (cpF (h.2.1 198) 0 (fun _ => 0) i)) 199 (cpF (h.2.1 199) 0 (fun _ => -1) i)) := w
    have w2 : WF (av_uI (setC (setC h 198 (cpF (h.2.1 198) 0 (fun _ => 0) i)) 199 (cpF (h.2.1 199) 0 (fun _ => -1) i)) 198 i 0) := w
    have c1 : av_uI (setC (setC h 198 (cpF (h.2.1 198) 0 (fun _ => 0) i)) 199 (cpF (h.2.1 199) 0 (fun _ => -1) i)) 198 i 0 = setC (setC h 198 (cpF (h.2.1 198) 0 (fun _ => 0) (i + 1))) 199 (cpF (h.2.1 199) 0 (fun _ => -1) i) := by
      have e0 := cpF_s (f := h.2.1 198) (o := 0) (g := fun _ => (0 : Int32)) (n := i)
      rw [Nat.zero_add] at e0
      have e1 : upd (cpF (h.2.1 198) 0 (fun _ => 0) i) i 0 = cpF (h.2.1 198) 0 (fun _ => 0) (i + 1) := e0
      rw [uI_set, setC_ne (by decide), setC_eq, e1, setC_sw (a := 199) (b := 198) (by decide), setC_2]
    have c2 : av_uI (setC (setC h 198 (cpF (h.2.1 198) 0 (fun _ => 0) (i + 1))) 199 (cpF (h.2.1 199) 0 (fun _ => -1) i)) 199 i (-1) = setC (setC h 198 (cpF (h.2.1 198) 0 (fun _ => 0) (i + 1))) 199 (cpF (h.2.1 199) 0 (fun _ => -1) (i + 1)) := by
      have e0 := cpF_s (f := h.2.1 199) (o := 0) (g := fun _ => (-1 : Int32)) (n := i)
      rw [Nat.zero_add] at e0
      have e1 : upd (cpF (h.2.1 199) 0 (fun _ => -1) i) i (-1) = cpF (h.2.1 199) 0 (fun _ => -1) (i + 1) := e0
      rw [setC_u, e1]
    rw [b_343_17, if_pos (show nI i < 10 from nI_lt (b := 10) (by omega) (by omega)), gR_137_78 w', st_198 w' (by omega), gR_137_79 w2, st_199 w2 (by omega), c1, c2, nI_1]
    exact ih
theorem rota_ok (w : WF h) (Ja : J_aw h) (n q : Int32) : ∃ v h1 h2, ev X (d + 5) 163 [vr (some 0), vi n, vi q] h = av_rI v h1 ∧ ev X (d + 5) 343 [vr (some 137), vi n, vi q] h1 = av_rI v h2 ∧ WF h2 ∧ off false [35, 36, 198, 199] [(137, 0)] h h2 := by
  have wt : WF (th h) := w
  have fin : off false [35, 36, 198, 199] [(137, 0)] h (th h) := agr.uI rfl agr.rfl
  cases q1 : rg n 2 10 with
  | false =>
    refine ⟨-1, h, th h, ?_, ?_, w, fin⟩
    · rw [e_163, b_163_0, c_within', tI_2, tI_10, q1, if_pos (show bI false = 0 from rfl)]
    · rw [e_343, b_343_0, pI_137 w, th_e, s_within', tI_2, tI_10, q1, if_pos (show bI false = 0 from rfl)]
  | true =>
    cases q2 : rg q 0 19 with
    | false =>
      refine ⟨-1, h, th h, ?_, ?_, w, fin⟩
      · rw [e_163, b_163_0, c_within', tI_2, tI_10, q1, if_neg (show ¬ bI true = 0 by decide), c_below', tI_20, show rg q 0 ((20 : Int) - 1) = false from q2, if_pos (show bI false = 0 from rfl)]
      · rw [e_343, b_343_0, pI_137 w, th_e, s_within', tI_2, tI_10, q1, if_neg (show ¬ bI true = 0 by decide), s_within', tI_0, tI_19, q2, if_pos (show bI false = 0 from rfl)]
    | true =>
      have q1' := q1
      have q0 : rg n 0 10 = true := by
        simp only [rg, Bool.and_eq_true, decide_eq_true_eq] at q1' ⊢
        omega
      obtain ⟨n, n11, rfl⟩ := rg_nI (b := 10) (by decide) q0
      obtain ⟨q, q20, rfl⟩ := rg_nI (b := 19) (by decide) q2
      have HA : ∀ p, ∃ b, p < 10 → b < 1048576 ∧ h.2.1 31 p = nI b ∧ ∀ k, k < 20 → h.2.1 197 (20 * p + k) = bI (b.testBit k) := fun p => by
        by_cases hp : p < 10
        · obtain ⟨b, z⟩ := Ja p hp
          exact ⟨b, fun _ => z⟩
        · exact ⟨0, fun y => absurd y hp⟩
      obtain ⟨aw, HA'⟩ : ∃ aw : Nat → Nat, ∀ p, p < 10 → aw p < 1048576 ∧ h.2.1 31 p = nI (aw p) ∧ ∀ k, k < 20 → h.2.1 197 (20 * p + k) = bI ((aw p).testBit k) := ⟨fun p => Classical.choose (HA p), fun p hp => Classical.choose_spec (HA p) hp⟩
      have n10 : n ≤ 10 := by omega
      have w20 : q < 20 := by omega
      have f1 := fill_35 (X := X) (d := d + 1) (h := h) (v := 0) w 10 0 (by omega)
      rw [cpF_0, setC_id] at f1
      generalize hg1 : setC h 35 (cpF (h.2.1 35) 0 (fun _ => 0) 10) = g1 at f1
      have wg1 : WF g1 := by rw [← hg1]; exact w
      have f2 := fill_36 (X := X) (d := d + 1) (h := g1) (v := -1) wg1 10 0 (by omega)
      rw [cpF_0, setC_id] at f2
      generalize hg2 : setC g1 36 (cpF (g1.2.1 36) 0 (fun _ => -1) 10) = g2 at f2
      have wg2 : WF g2 := by rw [← hg2]; exact wg1
      have og : off false [35, 36] [] h g2 := by
        rw [← hg2]
        refine agr.setC (fun j => rfl) ?_
        rw [← hg1]
        exact agr.setC (fun j => rfl) agr.rfl
      obtain ⟨h1, w1, o1, e1⟩ := c_wk (X := X) (d := d) (h0 := h) (aw := aw) (n := n) (wl := q) (fun p hp => ⟨(HA' p hp).1, (HA' p hp).2.1⟩) n10 w20 (q + 1) 0 g2 (by omega) wg2 og (fun p hp => by
        rw [← hg2, setC_ne (by decide), ← hg1, setC_eq, show p = 0 + p by omega, cpF_in hp]
        rfl) (fun p hp => by
        rw [← hg2, setC_eq, show p = 0 + p by omega, cpF_in hp]
        rfl)
      have W1 : WF (th h1) := w1
      have z1 := s_z (X := X) (d := d + 3) (h := th h1) (n := n) (wl := q) W1 10 0 (by omega)
      rw [cpF_0, cpF_0, setC_id, setC_id] at z1
      generalize hk : setC (setC (th h1) 198 (cpF ((th h1).2.1 198) 0 (fun _ => 0) 10)) 199 (cpF ((th h1).2.1 199) 0 (fun _ => -1) 10) = k1 at z1
      have wk1 : WF k1 := by rw [← hk]; exact w1
      have ok1 : off false [198, 199] [(137, 0)] h1 k1 := by
        rw [← hk]
        exact agr.setC (fun j => rfl) (agr.setC (fun j => rfl) (agr.uI rfl agr.rfl))
      obtain ⟨h2, w2, o2, e2⟩ := s_wk (X := X) (d := d + 1) (h0 := k1) (aw := aw) (n := n) (wl := q) (fun p hp k hk => by
        rw [(ok1.fr (q := false) (cs := [197]) (fs := []) (by decide)).I rfl, (o1.fr (q := false) (cs := [197]) (fs := []) (by decide)).I rfl]
        exact (HA' p hp).2.2 k hk) n10 w20 (q + 1) 0 k1 (by omega) wk1 agr.rfl (fun p hp => by
        rw [← hk, setC_ne (by decide), setC_eq, show p = 0 + p by omega, cpF_in hp]
        rfl) (fun p hp => by
        rw [← hk, setC_eq, show p = 0 + p by omega, cpF_in hp]
        rfl)
      refine ⟨nI (wkS aw n (q + 1)).2.2, h1, h2, ?_, ?_, w2, agr.tr (o1.up (by decide)) (agr.tr (ok1.up (by decide)) (o2.up (by decide)))⟩
      · rw [e_163, b_163_0, c_within', tI_2, tI_10, q1, if_neg (show ¬ bI true = 0 by decide), c_below', tI_20, show rg (nI q) 0 ((20 : Int) - 1) = true from q2, if_neg (show ¬ bI true = 0 by decide), gR_0_6 w, is_27 w, e_36, b_36_0, gR_27_9 w, e_383, b_383_0, ln_35 w, show (vi (0 : Int32)) = vi (nI 0) from rfl, show bd X (d + 2) 383 5 [(0, vr (some 35)), (1, vi (nI 0)), (2, vi (nI 0)), (3, vi (nI 10))] [] h = av_rV g1 from f1, av_cV_r, Option.bind_some, gR_27_10 wg1, e_383, b_383_0, ln_36 wg1, show bd X (d + 2) 383 5 [(0, vr (some 36)), (1, vi (-1)), (2, vi 0), (3, vi (nI 10))] [] g1 = av_rV g2 from f2, av_cV_r, Option.bind_some]
        rw [show bd X (d + 3) 36 12 [(0, vr (some 27)), (1, vi (nI n)), (2, vi (nI q)), (3, vi (nI 0)), (4, vi (nI 0))] [] g2 = av_rI (nI (wkS aw n (q + 1)).2.2) h1 from e1, av_cI_r, Option.bind_some]
      · rw [e_343, b_343_0, pI_137 w1, th_e, s_within', tI_2, tI_10, q1, if_neg (show ¬ bI true = 0 by decide), s_within', tI_0, tI_19, q2, if_neg (show ¬ bI true = 0 by decide)]
        exact z1.trans e2
end
