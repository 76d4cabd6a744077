/-! the side to begin with; the reference's plans -/
def fsS (a : Nat) (g : Nat → Nat) : Nat → Option Nat × Nat
  | 0 => (none, a)
  | s + 1 => if (fsS a g s).2 < g s then (some s, g s) else fsS a g s
theorem fsS_2 {a : Nat} {g : Nat → Nat} : ∀ n, (fsS a g n).2 = mxS a g n
  | 0 => rfl
  | n + 1 => by
    have ih := fsS_2 (a := a) (g := g) n
    rw [fsS, mxS]
    by_cases z : (fsS a g n).2 < g n
    · rw [if_pos z, Nat.max_eq_right (by omega)]
    · rw [if_neg z, ih, Nat.max_eq_left (by omega)]
theorem mxS_le {a : Nat} {g : Nat → Nat} : ∀ n, a ≤ mxS a g n ∧ ∀ s, s < n → g s ≤ mxS a g n
  | 0 => ⟨Nat.le_refl _, fun s hs => absurd hs (by omega)⟩
  | n + 1 => by
    obtain ⟨h1, h2⟩ := mxS_le (a := a) (g := g) n
    rw [mxS]
    refine ⟨by omega, fun s hs => ?_⟩
    by_cases z : s = n
    · rw [z]; omega
    · have := h2 s (by omega)
      omega
theorem fsS_c {a : Nat} {g : Nat → Nat} : ∀ n, ((fsS a g n).1 = none → mxS a g n = a) ∧ ∀ s, (fsS a g n).1 = some s → s < n ∧ g s = mxS a g n ∧ a < g s ∧ ∀ s', s' < s → g s' < g s
  | 0 => ⟨fun _ => rfl, fun s z => by cases z⟩
  | n + 1 => by
    obtain ⟨h1, h2⟩ := fsS_c (a := a) (g := g) n
    have e2 := fsS_2 (a := a) (g := g) n
    obtain ⟨m1, m2⟩ := mxS_le (a := a) (g := g) n
    rw [fsS, mxS]
    by_cases z : (fsS a g n).2 < g n
    · rw [if_pos z, Nat.max_eq_right (by omega)]
      refine ⟨fun y => (by cases y), fun s y => ?_⟩
      injection y with y
      subst y
      refine ⟨by omega, rfl, by omega, fun s' hs' => ?_⟩
      have := m2 s' hs'
      omega
    · rw [if_neg z, Nat.max_eq_left (by omega)]
      refine ⟨h1, fun s y => ?_⟩
      obtain ⟨u1, u2, u3, u4⟩ := h2 s y
      exact ⟨by omega, u2, u3, u4⟩
/-- the first that is the most, and more than nothing -/
def rfS (a M : Nat) (g : Nat → Nat) : Nat → Nat → Option Nat
  | 0, _ => none
  | k + 1, s => if g s = M ∧ a < g s then some s else rfS a M g k (s + 1)
theorem rfS_c {a M : Nat} {g : Nat → Nat} : ∀ k s, (rfS a M g k s = none → ∀ t, s ≤ t → t < s + k → ¬ (g t = M ∧ a < g t)) ∧ ∀ t, rfS a M g k s = some t → s ≤ t ∧ t < s + k ∧ (g t = M ∧ a < g t) ∧ ∀ t', s ≤ t' → t' < t → ¬ (g t' = M ∧ a < g t')
  | 0, s => ⟨fun _ t h1 h2 => absurd h2 (by omega), fun t z => by cases z⟩
  | k + 1, s => by
    obtain ⟨h1, h2⟩ := rfS_c (a := a) (M := M) (g := g) k (s + 1)
    rw [rfS]
    by_cases z : g s = M ∧ a < g s
    · rw [if_pos z]
      refine ⟨fun y => (by cases y), fun t y => ?_⟩
      injection y with y
      subst y
      exact ⟨by omega, by omega, z, fun t' u1 u2 => absurd u2 (by omega)⟩
    · rw [if_neg z]
      refine ⟨fun y t u1 u2 => ?_, fun t y => ?_⟩
      · by_cases e : t = s
        · rw [e]; exact z
        · exact h1 y t (by omega) (by omega)
      · obtain ⟨u1, u2, u3, u4⟩ := h2 t y
        refine ⟨by omega, by omega, u3, fun t' v1 v2 => ?_⟩
        by_cases e : t' = s
        · rw [e]; exact z
        · exact u4 t' (by omega) v2
theorem rf_fs {a : Nat} {g : Nat → Nat} : rfS a (mxS a g 4) g 4 0 = (fsS a g 4).1 := by
  obtain ⟨h1, h2⟩ := fsS_c (a := a) (g := g) 4
  obtain ⟨r1, r2⟩ := rfS_c (a := a) (M := mxS a g 4) (g := g) 4 0
  obtain ⟨m1, m2⟩ := mxS_le (a := a) (g := g) 4
  cases e : (fsS a g 4).1 with
  | none =>
    have := h1 e
    cases u : rfS a (mxS a g 4) g 4 0 with
    | none => rfl
    | some t =>
      obtain ⟨-, -, v, -⟩ := r2 t u
      omega
  | some s =>
    obtain ⟨a1, a2, a3, a4⟩ := h2 s e
    cases u : rfS a (mxS a g 4) g 4 0 with
    | none => exact absurd ⟨a2, a3⟩ (r1 u s (by omega) (by omega))
    | some t =>
      obtain ⟨-, v2, v3, v4⟩ := r2 t u
      have : t = s := by
        rcases Nat.lt_trichotomy t s with z | z | z
        · have := a4 t z
          omega
        · exact z
        · exact absurd ⟨a2, a3⟩ (v4 s (by omega) z)
      rw [this]
section
variable {X : av_X} {d : Nat} {n c : Nat} {p S W : Nat → Nat} {ch : Nat → Nat → Nat} {h0 : av_H}
theorem fi_lp (T : XT X) (P : PC n c p S W ch h0) {r : Nat} (hr : r ≤ 4) {lf : Nat} (l8 : lf < 256) : ∀ k s h, s + k = 4 → PK n c p S W ch h0 h → ∃ h', PK n c p S W ch h0 h' ∧ bd X (d + 2 * r + 5) 54 9 [(0, vr (some 46)), (1, vi (nI (4 - r))), (2, vi (nI lf)), (3, vi (oI (fsS (10 * plN n c p S W ch r lf) (bwV n c p S W ch (plN n c p S W ch r) r lf) s).1)), (4, vl (lN (fsS (10 * plN n c p S W ch r lf) (bwV n c p S W ch (plN n c p S W ch r) r lf) s).2)), (6, vi (nI s))] [] h = av_rI (oI (fsS (10 * plN n c p S W ch r lf) (bwV n c p S W ch (plN n c p S W ch r) r lf) 4).1) h'
  | 0, s, h, hs, K => by
    obtain rfl : s = 4 := by omega
    exact ⟨h, K, by rw [b_54_9, if_neg (show ¬ nI 4 < 4 by decide)]⟩
  | k + 1, s, h, hs, K => by
    have hch : ∀ e s, e < 5 → s < 4 → ch e s ≤ 10 := fun e s he hs => (P.2.2.2.2.1 e s he hs).1
    obtain ⟨h1, K1, e1⟩ := c_with (X := X) (d := d) T P hr (c_best T P r (by omega)) l8 (show s < 4 by omega) K
    obtain ⟨h2, K2, e2⟩ := fi_lp T P hr l8 k (s + 1) h1 (by omega) K1
    have b1 : (fsS (10 * plN n c p S W ch r lf) (bwV n c p S W ch (plN n c p S W ch r) r lf) s).2 ≤ 100000000000 := by
      rw [fsS_2]
      exact mxS_ub (by have := pl_lt P.1 hch (c := c) (lf := lf) (show r ≤ 5 by omega); omega) s (fun s' hs' => Nat.le_of_lt (bw_lt P.1 hch hr (by omega)))
    have b2 := bw_lt P.1 hch (c := c) (lf := lf) hr (show s < 4 by omega)
    refine ⟨h2, K2, ?_⟩
    rw [fsS] at e2
    rw [b_54_9, if_pos (show nI s < 4 from nI_lt (b := 4) (by omega) (by omega)), is_46 K.1, e1, av_cL_r, Option.bind_some, nI_1]
    simp only [lg_cmp_gt, lN_lt' (show (fsS (10 * plN n c p S W ch r lf) (bwV n c p S W ch (plN n c p S W ch r) r lf) s).2 < 2 ^ 62 by omega) (show bwV n c p S W ch (plN n c p S W ch r) r lf s < 2 ^ 62 by omega)]
    by_cases z : (fsS (10 * plN n c p S W ch r lf) (bwV n c p S W ch (plN n c p S W ch r) r lf) s).2 < bwV n c p S W ch (plN n c p S W ch r) r lf s
    · rw [if_pos z] at e2
      rw [if_pos z]
      exact e2
    · rw [if_neg z] at e2
      rw [if_neg z]
      exact e2
theorem c_first (T : XT X) (P : PC n c p S W ch h0) {r : Nat} (hr : r ≤ 4) {lf : Nat} (l8 : lf < 256) {h : av_H} (K : PK n c p S W ch h0 h) : ∃ h', PK n c p S W ch h0 h' ∧ ev X (d + 2 * r + 6) 54 [vr (some 46), vi (nI (4 - r)), vi (nI lf)] h = av_rI (oI (fsS (10 * plN n c p S W ch r lf) (bwV n c p S W ch (plN n c p S W ch r) r lf) 4).1) h' := by
  obtain ⟨h1, K1, e1⟩ := c_best (X := X) (d := d) T P r (by omega) lf h l8 K
  obtain ⟨h2, K2, e2⟩ := fi_lp (X := X) (d := d) T P hr l8 4 0 h1 (by omega) K1
  refine ⟨h2, K2, ?_⟩
  rw [e_54, b_54_0, is_46 K.1, e_52, b_52_0, is_46 K.1, nI_1, show 4 - r + 1 = 5 - r by omega, e1, av_cL_r, Option.bind_some, show (10 : Int64) = lN 10 from rfl, lN_mul, av_cL_r, Option.bind_some]
  exact e2
/-- what the reference holds -/
def PR (n c : Nat) (p S W : Nat → Nat) (ch : Nat → Nat → Nat) (h : av_H) : Prop := wnO n p S W ∧ wnR h n S W ∧ h.2.1 137 68 = nI c ∧ c ≤ 8 ∧ ∀ e s, e < 5 → s < 4 → ch e s ≤ 10 ∧ h.2.1 188 (4 * e + s) = nI (ch e s)
theorem PR.fr {h h' : av_H} (P : PR n c p S W ch h) (A : agr (FP false [186, 187, 188] [(137, 64), (137, 68)]) h h') : PR n c p S W ch h' :=
  ⟨P.1, P.2.1.fr (A.sub (by decide)), (A.I rfl).trans P.2.2.1, P.2.2.2.1, fun e s he hs => ⟨(P.2.2.2.2 e s he hs).1, (A.I rfl).trans (P.2.2.2.2 e s he hs).2⟩⟩
/-- plans found for the last r days -/
def PL (n c : Nat) (p S W : Nat → Nat) (ch : Nat → Nat → Nat) (r : Nat) (h : av_H) : Prop := ∀ lf, lf < 2 ^ n → h.2.2.1 189 (256 * (5 - r) + lf) = lN (plN n c p S W ch r lf)
theorem s_day {h : av_H} (w : WF h) (P : PR n c p S W ch h) {r lf s : Nat} (hr : r ≤ 4) (ll : lf < 2 ^ n) (s5 : s < 5) (L : PL n c p S W ch r h) : ev X (d + 3) 325 [vr (some 137), vi (nI (4 - r)), vi (nI lf), vi (nI s)] h = av_rL (lN (if s = 4 then 10 * plN n c p S W ch r lf else bwV n c p S W ch (plN n c p S W ch r) r lf s)) h := by
  obtain ⟨O, R, hc, c8, hch⟩ := P
  have n8 := O.1
  have pn : 2 ^ n ≤ 256 := Nat.pow_le_pow_right (n := 2) (by decide) n8
  have hch' : ∀ e s, e < 5 → s < 4 → ch e s ≤ 10 := fun e s he hs => (hch e s he hs).1
  rw [e_325, b_325_0, gR_137_69 w, show (256 : Int32) = nI 256 from rfl, nI_1, show 4 - r + 1 = 5 - r by omega, pk_mul, nI_add, ld_189 w (by omega), L lf ll]
  by_cases z : s = 4
  · rw [if_pos (show nI s = 4 by rw [z]; rfl), if_pos z, show (10 : Int64) = lN 10 from rfl, lN_mul]
  · have s4 : s < 4 := by omega
    have dl := dnM_lt O (c := c) (lf := lf) (s := s)
    have nl : nd lf (dnM n p S c lf s) < 2 ^ n := nd_lt ll
    have nn : nd lf (nd lf (dnM n p S c lf s)) = dnM n p S c lf s := by
      apply Nat.eq_of_testBit_eq
      intro k
      rw [nd_bit, nd_bit]
      have := nd_0.mp (dnM_sub (n := n) (p := p) (S := S) (c := c) (lf := lf) (s := s)) k
      cases u : (dnM n p S c lf s).testBit k with
      | false => cases lf.testBit k <;> rfl
      | true => rw [this u]; rfl
    have wl := wsN_le O (dnM n p S c lf s)
    have chl := (hch (4 - r) s (by omega) s4).1
    rw [if_neg (show ¬ nI s = 4 from fun y => z ((nI_eq (b := 4) (by omega) (by omega)).mp y)), if_neg z, is_137 w, s_behind w O R hc c8 (by omega) s4, av_cI_r, Option.bind_some, is_137 w, nb_andn, nn, s_worth w O R (by omega), av_cL_r, Option.bind_some, show (4 : Int32) = nI 4 from rfl, pk_sub (by omega), show 4 - (4 - r) = r by omega, s_tens (by omega), av_cL_r, Option.bind_some, gR_137_69 w, nI_add, ld_189 w (by omega), L _ nl, gR_137_67 w, pk_mul, nI_add, ld_188 w (by omega), (hch (4 - r) s (by omega) s4).2, show (10 : Int32) = nI 10 from rfl, pk_sub chl, nI_l (by omega), nI_l (by omega), lN_mul, lN_add, lN_mul, lN_mul, lN_add]
    rfl
end
