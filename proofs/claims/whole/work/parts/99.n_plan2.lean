/-! what a plan is worth -/
theorem tI_lN {a : Nat} (ha : a < 2 ^ 62) : (lN a).toInt = a := Int64.toInt_ofNat_of_lt (by omega)
theorem lN_lt' {a b : Nat} (ha : a < 2 ^ 62) (hb : b < 2 ^ 62) : (lN a < lN b) ↔ a < b := by
  rw [Int64.lt_iff_toInt_lt, tI_lN ha, tI_lN hb]
  omega
theorem lN_eq' {a b : Nat} (ha : a < 2 ^ 62) (hb : b < 2 ^ 62) : (lN a = lN b) ↔ a = b := by
  constructor
  · intro z
    have := congrArg Int64.toInt z
    rw [tI_lN ha, tI_lN hb] at this
    omega
  · intro z; rw [z]
theorem lN_m1 {a : Nat} (ha : a < 2 ^ 62) : ¬ lN a = -1 := fun z => by
  have := congrArg Int64.toInt z
  rw [tI_lN ha, show (-1 : Int64).toInt = -1 from rfl] at this
  omega
def mxS (a : Nat) (g : Nat → Nat) : Nat → Nat
  | 0 => a
  | s + 1 => max (mxS a g s) (g s)
theorem mxS_ub {a B : Nat} {g : Nat → Nat} (ha : a ≤ B) : ∀ n, (∀ s, s < n → g s ≤ B) → mxS a g n ≤ B
  | 0, _ => ha
  | n + 1, q => by
    have := mxS_ub ha n (fun s hs => q s (by omega))
    have := q n (by omega)
    rw [mxS]
    omega
/-- what a side is worth on a day, by what the days behind it are worth -/
def bwV (n c : Nat) (p S W : Nat → Nat) (ch : Nat → Nat → Nat) (pl : Nat → Nat) (r lf s : Nat) : Nat := ch (4 - r) s * (wsN n W (dnM n p S c lf s) * 10 ^ r + pl (nd lf (dnM n p S c lf s))) + (10 - ch (4 - r) s) * pl lf
def plN (n c : Nat) (p S W : Nat → Nat) (ch : Nat → Nat → Nat) : Nat → Nat → Nat
  | 0, _ => 0
  | r + 1, lf => mxS (10 * plN n c p S W ch r lf) (bwV n c p S W ch (plN n c p S W ch r) r lf) 4
theorem bw_ub {n c r lf s B : Nat} {p S W : Nat → Nat} {ch : Nat → Nat → Nat} {pl : Nat → Nat} (O : wnO n p S W) (hch : ch (4 - r) s ≤ 10) (hpl : ∀ lf, pl lf ≤ B) : bwV n c p S W ch pl r lf s ≤ 10 * (792 * 10 ^ r + B) := by
  have h1 := wsN_le O (dnM n p S c lf s)
  have h2 := hpl (nd lf (dnM n p S c lf s))
  have h3 := hpl lf
  have h4 : wsN n W (dnM n p S c lf s) * 10 ^ r ≤ 792 * 10 ^ r := Nat.mul_le_mul_right _ h1
  unfold bwV
  generalize ch (4 - r) s = t at hch
  have h5 : t * (wsN n W (dnM n p S c lf s) * 10 ^ r + pl (nd lf (dnM n p S c lf s))) ≤ t * (792 * 10 ^ r + B) := Nat.mul_le_mul_left _ (by omega)
  have h6 : (10 - t) * pl lf ≤ (10 - t) * (792 * 10 ^ r + B) := Nat.mul_le_mul_left _ (by omega)
  have h7 : t * (792 * 10 ^ r + B) + (10 - t) * (792 * 10 ^ r + B) = 10 * (792 * 10 ^ r + B) := by
    rw [← Nat.add_mul, show t + (10 - t) = 10 by omega]
  omega
theorem pl_ub {n c : Nat} {p S W : Nat → Nat} {ch : Nat → Nat → Nat} (O : wnO n p S W) (hch : ∀ e s, e < 5 → s < 4 → ch e s ≤ 10) : ∀ r lf, r ≤ 5 → plN n c p S W ch r lf ≤ r * (792 * 10 ^ r)
  | 0, _, _ => by rw [plN]; omega
  | r + 1, lf, hr => by
    have ih := fun lf => pl_ub O hch (c := c) r lf (by omega)
    have e : (r + 1) * (792 * 10 ^ (r + 1)) = 10 * (792 * 10 ^ r + r * (792 * 10 ^ r)) := by
      rw [Nat.pow_succ, Nat.succ_mul]
      have : r * (792 * (10 ^ r * 10)) = 10 * (r * (792 * 10 ^ r)) := by
        rw [← Nat.mul_assoc 792, ← Nat.mul_assoc r, Nat.mul_comm _ 10]
      omega
    rw [plN, e]
    refine mxS_ub ?_ 4 (fun s hs => bw_ub O (hch (4 - r) s (by omega) hs) ih)
    have := ih lf
    omega
theorem pl_lt {n c : Nat} {p S W : Nat → Nat} {ch : Nat → Nat → Nat} (O : wnO n p S W) (hch : ∀ e s, e < 5 → s < 4 → ch e s ≤ 10) {r lf : Nat} (hr : r ≤ 5) : plN n c p S W ch r lf < 500000000 := by
  have := pl_ub O hch (c := c) r lf hr
  have h2 : (10 : Nat) ^ r ≤ 10 ^ 5 := Nat.pow_le_pow_right (by decide) hr
  have h3 : 792 * 10 ^ r ≤ 792 * 10 ^ 5 := Nat.mul_le_mul_left _ h2
  have h4 : r * (792 * 10 ^ r) ≤ 5 * (792 * 10 ^ 5) := Nat.mul_le_mul hr h3
  omega
theorem bw_lt {n c : Nat} {p S W : Nat → Nat} {ch : Nat → Nat → Nat} (O : wnO n p S W) (hch : ∀ e s, e < 5 → s < 4 → ch e s ≤ 10) {r lf s : Nat} (hr : r ≤ 4) (hs : s < 4) : bwV n c p S W ch (plN n c p S W ch r) r lf s < 100000000000 := by
  have := bw_ub (lf := lf) (s := s) (c := c) (pl := plN n c p S W ch r) O (hch (4 - r) s (by omega) hs) (fun lf => Nat.le_of_lt (pl_lt O hch (c := c) (lf := lf) (show r ≤ 5 by omega)))
  have h2 : (10 : Nat) ^ r ≤ 10 ^ 4 := Nat.pow_le_pow_right (by decide) hr
  omega
/-- the class's memory of plans -/
def KN (n c : Nat) (p S W : Nat → Nat) (ch : Nat → Nat → Nat) (h : av_H) : Prop := ∀ e lf, e < 5 → lf < 256 → h.2.2.1 52 (e * 256 + lf) = -1 ∨ h.2.2.1 52 (e * 256 + lf) = lN (plN n c p S W ch (5 - e) lf)
def PK (n c : Nat) (p S W : Nat → Nat) (ch : Nat → Nat → Nat) (h0 h : av_H) : Prop := WF h ∧ off false [52] [] h0 h ∧ h.1 = h0.1 ∧ KN n c p S W ch h
/-- what the class's planner holds -/
def PC (n c : Nat) (p S W : Nat → Nat) (ch : Nat → Nat → Nat) (h : av_H) : Prop := wnO n p S W ∧ wnC h n p S W ∧ h.2.1 46 4 = nI c ∧ c ≤ 8 ∧ (∀ e s, e < 5 → s < 4 → ch e s ≤ 10 ∧ h.2.1 50 (e * 4 + s) = nI (ch e s)) ∧ h.1.length ≤ 1000000
section
variable {X : av_X} {d : Nat}
theorem c_maxL {h : av_H} {a b : Nat} (ha : a < 2 ^ 62) (hb : b < 2 ^ 62) : ev X (d + 1) 380 [vl (lN a), vl (lN b)] h = av_rL (lN (max a b)) h := by
  rw [e_380, b_380_0]
  simp only [lg_cmp_lt, lN_lt' ha hb]
  by_cases z : a < b
  · rw [if_pos z, Nat.max_eq_right (by omega)]
  · rw [if_neg z, Nat.max_eq_left (by omega)]
variable {n c : Nat} {p S W : Nat → Nat} {ch : Nat → Nat → Nat} {h0 : av_H}
theorem c_with (T : XT X) (P : PC n c p S W ch h0) {r : Nat} (hr : r ≤ 4) (IH : ∀ lf h, lf < 256 → PK n c p S W ch h0 h → ∃ h', PK n c p S W ch h0 h' ∧ ev X (d + 2 * r + 4) 51 [vr (some 46), vi (nI (5 - r)), vi (nI lf)] h = av_rL (lN (plN n c p S W ch r lf)) h') {lf s : Nat} (l8 : lf < 256) (s4 : s < 4) {h : av_H} (K : PK n c p S W ch h0 h) : ∃ h', PK n c p S W ch h0 h' ∧ ev X (d + 2 * r + 5) 53 [vr (some 46), vi (nI (4 - r)), vi (nI lf), vi (nI s)] h = av_rL (lN (bwV n c p S W ch (plN n c p S W ch r) r lf s)) h' := by
  obtain ⟨O, C, hc, c8, hch, hL⟩ := P
  have w := K.1
  have A := K.2.1.fr (q := false) (cs := [47, 48, 49, 50]) (fs := [(46, 0), (46, 4)]) (by decide)
  have dl : dnM n p S c lf s < 256 := Nat.lt_of_lt_of_le (dnM_lt O) (Nat.pow_le_pow_right (n := 2) (by decide) O.1)
  have nl : nd lf (dnM n p S c lf s) < 256 := nd_lt (n := 8) l8
  obtain ⟨h1, K1, e1⟩ := IH (nd lf (dnM n p S c lf s)) h nl K
  obtain ⟨h2, K2, e2⟩ := IH lf h1 l8 K1
  have wl := wsN_le O (dnM n p S c lf s)
  have chl := (hch (4 - r) s (by omega) s4).1
  refine ⟨h2, K2, ?_⟩
  have C' := C.fr (A.sub (by decide))
  rw [e_53, b_53_0, is_46 w, c_done w O C' ((A.I rfl).trans hc) c8 l8 s4, av_cI_r, Option.bind_some, gR_46_8 w, c_ten w (by omega) s4 ((A.I rfl).trans (hch (4 - r) s (by omega) s4).2), av_cI_r, Option.bind_some, is_46 w, c_worth w O C' dl, av_cI_r, Option.bind_some, show (4 : Int32) = nI 4 from rfl, pk_sub (by omega), show 4 - (4 - r) = r by omega, c_tens T (by rw [K.2.2.1]; exact hL) (by omega), av_cL_r, Option.bind_some, is_46 w, nb_andn, nI_1, show 4 - r + 1 = 5 - r by omega, e1, av_cL_r, Option.bind_some, is_46 K1.1, e2, av_cL_r, Option.bind_some, show (10 : Int32) = nI 10 from rfl, pk_sub chl, nI_l (by omega), nI_l (by omega), nI_l (by omega), lN_mul, lN_add, lN_mul, lN_mul, lN_add]
  rfl
theorem bf_lp (T : XT X) (P : PC n c p S W ch h0) {r : Nat} (hr : r ≤ 4) (IH : ∀ lf h, lf < 256 → PK n c p S W ch h0 h → ∃ h', PK n c p S W ch h0 h' ∧ ev X (d + 2 * r + 4) 51 [vr (some 46), vi (nI (5 - r)), vi (nI lf)] h = av_rL (lN (plN n c p S W ch r lf)) h') {lf : Nat} (l8 : lf < 256) : ∀ k s h, s + k = 4 → PK n c p S W ch h0 h → ∃ h', PK n c p S W ch h0 h' ∧ bd X (d + 2 * r + 5) 51 32 [(0, vr (some 46)), (1, vi (nI (4 - r))), (2, vi (nI lf)), (3, vi (nI ((4 - r) * 256 + lf))), (4, vl (lN (mxS (10 * plN n c p S W ch r lf) (bwV n c p S W ch (plN n c p S W ch r) r lf) s))), (6, vi (nI s))] [] h = av_rL (lN (plN n c p S W ch (r + 1) lf)) h'
  | 0, s, h, hs, K => by
    obtain rfl : s = 4 := by omega
    have w := K.1
    have w' : WF (av_uL h 52 ((4 - r) * 256 + lf) (lN (plN n c p S W ch (r + 1) lf))) := WF_uL w
    refine ⟨av_uL h 52 ((4 - r) * 256 + lf) (lN (plN n c p S W ch (r + 1) lf)), ⟨w', agr.uL rfl K.2.1, K.2.2.1, fun e lf' he hl => ?_⟩, ?_⟩
    · by_cases z : e * 256 + lf' = (4 - r) * 256 + lf
      · right
        rw [z, uL_eq, show e = 4 - r by omega, show lf' = lf by omega, show 5 - (4 - r) = r + 1 by omega]
      · rw [uL_nk z]
        exact K.2.2.2 e lf' he hl
    · rw [show mxS (10 * plN n c p S W ch r lf) (bwV n c p S W ch (plN n c p S W ch r) r lf) 4 = plN n c p S W ch (r + 1) lf from rfl, b_51_32, if_neg (show ¬ nI 4 < 4 by decide), gR_46_10 w, st_52 w (by omega), gR_46_10 w', ld_52 w' (by omega), uL_eq]
  | k + 1, s, h, hs, K => by
    obtain ⟨h1, K1, e1⟩ := c_with (X := X) (d := d) T P hr IH l8 (show s < 4 by omega) K
    obtain ⟨h2, K2, e2⟩ := bf_lp T P hr IH l8 k (s + 1) h1 (by omega) K1
    have hch : ∀ e s, e < 5 → s < 4 → ch e s ≤ 10 := fun e s he hs => (P.2.2.2.2.1 e s he hs).1
    have b1 : mxS (10 * plN n c p S W ch r lf) (bwV n c p S W ch (plN n c p S W ch r) r lf) s ≤ 100000000000 := mxS_ub (by have := pl_lt P.1 hch (c := c) (lf := lf) (show r ≤ 5 by omega); omega) s (fun s' hs' => Nat.le_of_lt (bw_lt P.1 hch hr (by omega)))
    have b2 := bw_lt P.1 hch (c := c) (lf := lf) hr (show s < 4 by omega)
    refine ⟨h2, K2, ?_⟩
    rw [mxS] at e2
    rw [b_51_32, if_pos (show nI s < 4 from nI_lt (b := 4) (by omega) (by omega)), is_46 K.1, e1, av_cL_r, Option.bind_some, c_maxL (by omega) (by omega), av_cL_r, Option.bind_some, nI_1]
    exact e2
theorem c_best (T : XT X) (P : PC n c p S W ch h0) : ∀ r, r ≤ 5 → ∀ lf h, lf < 256 → PK n c p S W ch h0 h → ∃ h', PK n c p S W ch h0 h' ∧ ev X (d + 2 * r + 4) 51 [vr (some 46), vi (nI (5 - r)), vi (nI lf)] h = av_rL (lN (plN n c p S W ch r lf)) h'
  | 0, _, lf, h, l8, K => by
    refine ⟨h, K, ?_⟩
    rw [e_51, b_51_0, c_below', tI_5, show rg (nI (5 - 0)) 0 ((5 : Int) - 1) = false from by decide, if_pos (show bI false = 0 from rfl), plN]
    rfl
  | r + 1, hr, lf, h, l8, K => by
    have IH := c_best T P r (by omega)
    have w := K.1
    have hch : ∀ e s, e < 5 → s < 4 → ch e s ≤ 10 := fun e s he hs => (P.2.2.2.2.1 e s he hs).1
    have pb := pl_lt P.1 hch (c := c) (lf := lf) hr
    have g1 : rg (nI (4 - r)) 0 ((5 : Int) - 1) = true := rg_lt2 (n := 4) (by omega) (by omega)
    have g2 : rg (nI ((4 - r) * 256 + lf)) 0 (((1280 : Nat) : Int) - 1) = true := rg_lt2 (n := 1279) (by omega) (by omega)
    have kn := K.2.2.2 (4 - r) lf (by omega) l8
    rw [show 5 - (4 - r) = r + 1 by omega] at kn
    rcases kn with z | z
    · obtain ⟨h1, K1, e1⟩ := IH lf h l8 K
      obtain ⟨h2, K2, e2⟩ := bf_lp (X := X) (d := d) T P (show r ≤ 4 by omega) IH l8 4 0 h1 (by omega) K1
      refine ⟨h2, K2, ?_⟩
      rw [show 5 - (r + 1) = 4 - r by omega, show d + 2 * (r + 1) + 4 = (d + 2 * r + 5) + 1 by omega, e_51, b_51_0, c_below', tI_5, g1, if_neg (show ¬ bI true = 0 by decide), gR_46_10 w, ln_52 w, show (256 : Int32) = nI 256 from rfl, pk_mul, nI_add, c_below', toI_nI (by decide), g2, if_neg (show ¬ bI true = 0 by decide), gR_46_10 w, ld_52 w (by omega), z, if_pos (show lg_cmp (-1) (-1) = 0 by decide), is_46 w, e_52, b_52_0, is_46 w, nI_1, show 4 - r + 1 = 5 - r by omega, e1, av_cL_r, Option.bind_some, show (10 : Int64) = lN 10 from rfl, lN_mul, av_cL_r, Option.bind_some]
      exact e2
    · refine ⟨h, K, ?_⟩
      have ne : ¬ lg_cmp (lN (plN n c p S W ch (r + 1) lf)) (-1) = 0 := fun y => by
        rw [lg_cmp_eq] at y
        exact lN_m1 (by omega) y
      rw [show 5 - (r + 1) = 4 - r by omega, show d + 2 * (r + 1) + 4 = (d + 2 * r + 5) + 1 by omega, e_51, b_51_0, c_below', tI_5, g1, if_neg (show ¬ bI true = 0 by decide), gR_46_10 w, ln_52 w, show (256 : Int32) = nI 256 from rfl, pk_mul, nI_add, c_below', toI_nI (by decide), g2, if_neg (show ¬ bI true = 0 by decide), gR_46_10 w, ld_52 w (by omega), z, if_neg ne, gR_46_10 w, ld_52 w (by omega), z]
end
