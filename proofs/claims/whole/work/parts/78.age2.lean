/-! how long the panes ahead were not washed: class and reference -/
theorem nsb (a b : Int32) : -(a - b) = b - a := Int32.neg_sub
section
variable {X : av_X} {d : Nat} {h : av_H}
theorem dr_v {β : Type} {i j : Nat} {v : Int32} (w : WF h) (hi : i < 60) (e : h.2.1 (77 + i) j = v) (K : Int32 → Option β) : (av_gI h (some (77 + i)) 0 j).bind K = K v := by rw [bS (k_gI (dr_k w hi) j), e]
theorem c_seen (w : WF h) {i k Mi : Nat} {Di : Nat → Nat} (hi : i < 60) (hk : k < 60) (P : dpc h i Di Mi) (b0 : Di 0 < 6) (b1 : Di 1 < 4) (b2 : Di 2 < 10) (hM : Mi < 2 ^ 48) {t s x : Nat} (t6 : t < 6) (s4 : s < 4) (x10 : x < 10) (e0 : h.2.1 (77 + k) 0 = nI t) (e1 : h.2.1 (77 + k) 1 = nI s) (e2 : h.2.1 (77 + k) 2 = nI x) : ∃ S, (∀ c, c < 4 → ∀ f, f < 12 → S.testBit (12 * c + f) = rch Di Mi t s f (x + c)) ∧ ev X (d + 2) 8 [vr (some (77 + i)), vr (some (77 + k))] h = av_rL (lN S) h := by
  have hD := P.1
  have no : ∀ c f, Di 0 ≠ t ∨ Di 1 ≠ s → rch Di Mi t s f (x + c) = false := fun c f z => by
    rw [rch]
    rcases z with z | z
    · rw [decide_eq_false z, Bool.false_and]
    · rw [decide_eq_false z, Bool.false_and, Bool.and_false]
  rw [e_8, b_8_0, dr_g w hi hD (by decide), dr_v w hk e2, dr_g w hi hD (by decide), dr_v w hk e0]
  by_cases q0 : Di 0 = t
  · rw [if_pos (congrArg nI q0), dr_g w hi hD (by decide), dr_v w hk e1]
    by_cases q1 : Di 1 = s
    · have rc : ∀ c f, rch Di Mi t s f (x + c) = (decide (Di 2 ≤ x + c ∧ x + c ≤ Di 2 + 3) && Mi.testBit (12 * (x + c - Di 2) + f)) := fun c f => by
        rw [rch, decide_eq_true q0, decide_eq_true q1, Bool.true_and, Bool.true_and]
      have rr : rg (nI (Di 2) - nI x) (-3 : Int32).toInt (3 : Int32).toInt = decide (x ≤ Di 2 + 3 ∧ Di 2 ≤ x + 3) := by
        rw [rg, pk_sub_toInt (by omega) (by omega)]
        apply decide_eq_decide.mpr
        rw [show (-3 : Int32).toInt = -3 from rfl, show (3 : Int32).toInt = 3 from rfl]
        omega
      rw [if_pos (congrArg nI q1), c_within', rr]
      by_cases z : x ≤ Di 2 + 3 ∧ Di 2 ≤ x + 3
      · rw [decide_eq_true z, if_neg (show ¬ bI true = 0 by decide)]
        by_cases y : Di 2 < x
        · refine ⟨Mi / 2 ^ ((x - Di 2) * 12), fun c c4 f f12 => ?_, ?_⟩
          · rw [rc, Nat.testBit_div_two_pow]
            by_cases y2 : x + c ≤ Di 2 + 3
            · rw [decide_eq_true ⟨by omega, y2⟩, Bool.true_and]
              congr 1
              omega
            · rw [decide_eq_false (by omega), Bool.false_and]
              exact Nat.testBit_lt_two_pow (Nat.lt_of_lt_of_le hM (Nat.pow_le_pow_right (by decide) (by omega)))
          · rw [if_pos (by rw [i_lt, pk_sub_toInt (by omega) (by omega), tI_0]; omega), dr_L w hi P.2, nsb, pk_sub (by omega), lit_12, pk_mul, sl64 (by omega) (by omega)]
        · refine ⟨Mi * 2 ^ ((Di 2 - x) * 12), fun c c4 f f12 => ?_, ?_⟩
          · rw [rc, Nat.testBit_mul_two_pow]
            by_cases y2 : Di 2 ≤ x + c
            · rw [decide_eq_true (show Di 2 ≤ x + c ∧ x + c ≤ Di 2 + 3 from ⟨y2, by omega⟩), decide_eq_true (show (Di 2 - x) * 12 ≤ 12 * c + f by omega)]
              congr 2
              omega
            · rw [decide_eq_false (show ¬ (Di 2 ≤ x + c ∧ x + c ≤ Di 2 + 3) by omega), decide_eq_false (show ¬ (Di 2 - x) * 12 ≤ 12 * c + f by omega)]
              rfl
          · rw [if_neg (by rw [i_lt, pk_sub_toInt (by omega) (by omega), tI_0]; omega), dr_L w hi P.2, pk_sub (by omega), lit_12, pk_mul, shlL _ (by omega)]
      · refine ⟨0, fun c c4 f f12 => ?_, ?_⟩
        · rw [rc, decide_eq_false (by omega), Bool.false_and, Nat.zero_testBit]
        · rw [decide_eq_false z, if_pos (show bI false = 0 from rfl)]
          rfl
    · refine ⟨0, fun c _ f _ => by rw [no c f (Or.inr q1), Nat.zero_testBit], ?_⟩
      rw [if_neg (fun y => q1 ((nI_eq (by omega) (by omega)).mp y))]
      rfl
  · refine ⟨0, fun c _ f _ => by rw [no c f (Or.inl q0), Nat.zero_testBit], ?_⟩
    rw [if_neg (fun y => q0 ((nI_eq (by omega) (by omega)).mp y))]
    rfl
theorem age_44 (w : WF h) {m t s x e Mm j Lf o : Nat} {D : Nat → Nat → Nat} {M : Nat → Nat} (hm : m < 60) (e4 : h.2.1 (77 + m) 4 = nI e) (he : e < 100) (hL : Lf < 2 ^ 48) (de : ∀ i, i < m → D i 4 ≤ e) (I : agI m D M t s x e Mm j Lf o) (fin : Lf = 0 ∨ j = 0) : ∃ r, agO (fun c f => wsh D M t s f (x + c) m) Mm e r ∧ bd X (d + 2) 205 44 [(1, vr (some (77 + m))), (2, vl (lN Lf)), (4, vi (nI o))] [] h = av_rI (nI r) h := by
  rw [b_205_44]
  simp only [lN_0 (show Lf < 2 ^ 64 by omega)]
  by_cases z : Lf = 0
  · subst z
    have oe := I.2.1
    refine ⟨Nat.min 99 (e - o), agI_0 I de, ?_⟩
    rw [if_pos rfl, dr_v w hm e4, pk_sub oe, c_min', show (99 : Int32) = nI 99 from rfl, nI_min (by omega) (by omega)]
  · obtain rfl : j = 0 := fin.resolve_left z
    refine ⟨99, agI_n I hL z, ?_⟩
    rw [if_neg z]
    rfl
theorem age_lp (w : WF h) {m t s x e Mm : Nat} {D : Nat → Nat → Nat} {M N : Nat → Nat} (B : DB m D M N) (C : DC h m D M) (hm : m < 60) (t6 : t < 6) (s4 : s < 4) (x10 : x < 10) (he : e < 100) (e0 : h.2.1 (77 + m) 0 = nI t) (e1 : h.2.1 (77 + m) 1 = nI s) (e2 : h.2.1 (77 + m) 2 = nI x) (e4 : h.2.1 (77 + m) 4 = nI e) (de : ∀ i, i < m → D i 4 ≤ e) : ∀ j Lf o, j ≤ m → Lf < 2 ^ 48 → agI m D M t s x e Mm j Lf o → ∃ r, agO (fun c f => wsh D M t s f (x + c) m) Mm e r ∧ bd X (d + 2) 205 11 [(0, vr (some 0)), (1, vr (some (77 + m))), (2, vl (lN Lf)), (4, vi (nI o)), (5, vi (nI j - 1))] [] h = av_rI (nI r) h
  | 0, Lf, o, hj, hL, I => by
    obtain ⟨r, a, b⟩ := age_44 (X := X) (d := d) w hm e4 he hL de I (Or.inr rfl)
    refine ⟨r, a, ?_⟩
    rw [b_205_11, if_pos (by decide)]
    exact b
  | j + 1, Lf, o, hj, hL, I => by
    rw [b_205_11, nI_pred, if_neg (nI_pos (by omega))]
    simp only [lN_0 (show Lf < 2 ^ 64 by omega)]
    by_cases z : Lf = 0
    · obtain ⟨r, a, b⟩ := age_44 (X := X) (d := d) w hm e4 he hL de I (Or.inl z)
      refine ⟨r, a, ?_⟩
      rw [if_pos z]
      exact b
    · obtain ⟨b0, b1, b2, -⟩ := B.2.1 j (by omega)
      have bM : M j < 2 ^ 48 := (B.2.1 j (by omega)).2.2.2.2.2.2.2.2.2.2.2.2.2.2.2.2.2.2.2.2.1
      have P := C.2 j (by omega)
      obtain ⟨S, hS, eS⟩ := c_seen (X := X) (d := d) w (show j < 60 by omega) hm P b0 b1 b2 bM t6 s4 x10 e0 e1 e2
      obtain ⟨s1, s2⟩ := agI_s (show j < m by omega) I hL hS (fun i h1 h2 => B.2.2 j i h1 h2) de
      have lA : (Lf &&& S) < 2 ^ 48 := Nat.lt_of_le_of_lt Nat.and_le_left hL
      rw [if_neg z, gR_0_13 w, dr_l w (by omega), dr_is w (by omega), eS, av_cL_r, Option.bind_some, andL, m1s]
      simp only [lN_0 (show (Lf &&& S) < 2 ^ 64 by omega)]
      by_cases y : (Lf &&& S) = 0
      · rw [if_pos y]
        exact age_lp w B C hm t6 s4 x10 he e0 e1 e2 e4 de j Lf o (by omega) hL (s1 y)
      · rw [if_neg y, gR_0_13 w, dr_l w (by omega), dr_g w (by omega) P.1 (by decide), andnL (by omega) (by omega)]
        exact age_lp w B C hm t6 s4 x10 he e0 e1 e2 e4 de j _ _ (by omega) (nd_lt hL) (s2 y)
theorem c_age (w : WF h) {m t s x e Mm : Nat} {D : Nat → Nat → Nat} {M N : Nat → Nat} (B : DB m D M N) (C : DC h m D M) (hm : m < 60) (t6 : t < 6) (s4 : s < 4) (x10 : x < 10) (he : e < 100) (e0 : h.2.1 (77 + m) 0 = nI t) (e1 : h.2.1 (77 + m) 1 = nI s) (e2 : h.2.1 (77 + m) 2 = nI x) (e4 : h.2.1 (77 + m) 4 = nI e) (de : ∀ i, i < m → D i 4 ≤ e) (hM : Mm < 2 ^ 48) (eM : h.2.2.1 (77 + m) 18 = lN Mm) : ∃ r, agO (fun c f => wsh D M t s f (x + c) m) Mm e r ∧ ev X (d + 3) 205 [vr (some 0), vr (some (77 + m))] h = av_rI (nI r) h := by
  rw [e_205, b_205_0, dr_L w hm eM, dr_v w hm e4, gIv_0_17 w C.1]
  refine age_lp w B C hm t6 s4 x10 he e0 e1 e2 e4 de m Mm e (Nat.le_refl m) hM ⟨fun c _ f _ => ?_, Nat.le_refl e, fun c _ f _ a b => ?_, Or.inl rfl⟩
  · rw [Nat.sub_self, anyN, Bool.not_false, Bool.and_true]
  · rw [a] at b; cases b
/-- the reference's way -/
def agR (N : Nat) (W : Nat → Nat → Option Nat) (e : Nat) : Nat → Nat
  | 0 => 0
  | k + 1 => if N.testBit k = true then Nat.max (agR N W e k) (agP e (W (k % 4) (k / 4))) else agR N W e k
theorem agR_le {N : Nat} {W : Nat → Nat → Option Nat} {e : Nat} : ∀ n, agR N W e n ≤ 99
  | 0 => Nat.zero_le _
  | n + 1 => by
    rw [agR]
    split
    · exact Nat.max_le.mpr ⟨agR_le n, agP_le e _⟩
    · exact agR_le n
theorem agR_up {N : Nat} {W : Nat → Nat → Option Nat} {e k : Nat} (q : N.testBit k = true) : ∀ n, k < n → agP e (W (k % 4) (k / 4)) ≤ agR N W e n
  | 0, hk => absurd hk (Nat.not_lt_zero k)
  | n + 1, hk => by
    rw [agR]
    by_cases z : k = n
    · subst z
      rw [if_pos q]
      exact Nat.le_max_right _ _
    · have ih := agR_up (W := W) (e := e) q n (by omega)
      split
      · exact Nat.le_trans ih (Nat.le_max_left _ _)
      · exact ih
theorem agR_at {N : Nat} {W : Nat → Nat → Option Nat} {e : Nat} : ∀ n, agR N W e n = 0 ∨ ∃ k, k < n ∧ N.testBit k = true ∧ agP e (W (k % 4) (k / 4)) = agR N W e n
  | 0 => Or.inl rfl
  | n + 1 => by
    have ih := agR_at (N := N) (W := W) (e := e) n
    rw [agR]
    by_cases q : N.testBit n = true
    · rw [if_pos q]
      rcases Nat.le_total (agR N W e n) (agP e (W (n % 4) (n / 4))) with z | z
      · exact Or.inr ⟨n, by omega, q, (Nat.max_eq_right z).symm⟩
      · rw [show Nat.max (agR N W e n) (agP e (W (n % 4) (n / 4))) = agR N W e n from Nat.max_eq_left z]
        rcases ih with y | ⟨k, h1, h2, h3⟩
        · exact Or.inl y
        · exact Or.inr ⟨k, by omega, h2, h3⟩
    · rw [if_neg q]
      rcases ih with y | ⟨k, h1, h2, h3⟩
      · exact Or.inl y
      · exact Or.inr ⟨k, by omega, h2, h3⟩
theorem agR_O {Mm N : Nat} {W : Nat → Nat → Option Nat} {e : Nat} (eq : ∀ c, c < 4 → ∀ f, f < 12 → Mm.testBit (12 * c + f) = N.testBit (4 * f + c)) : agO W Mm e (agR N W e 48) := by
  refine ⟨fun c c4 f f12 z => ?_, ?_⟩
  · rw [eq c c4 f f12] at z
    have y := agR_up (W := W) (e := e) z 48 (by omega)
    rw [show (4 * f + c) % 4 = c by omega, show (4 * f + c) / 4 = f by omega] at y
    exact y
  · rcases agR_at (N := N) (W := W) (e := e) 48 with z | ⟨k, h1, h2, h3⟩
    · exact Or.inl z
    · exact Or.inr ⟨k % 4, k / 4, by omega, by omega, by rw [eq _ (by omega) _ (by omega), show 4 * (k / 4) + k % 4 = k by omega]; exact h2, h3⟩
theorem ageOf_lp (w : WF h) {t s x e N m F : Nat} {D : Nat → Nat → Nat} {M : Nat → Nat} (t6 : t < 6) (s4 : s < 4) (x10 : x < 10) (he : e < 100) (hN : N < 2 ^ 48) (nb : ∀ c, c < 4 → ∀ f, f < 12 → N.testBit (4 * f + c) = true → f < F ∧ x + c < 10) (Wd : ∀ f, f < 12 → ∀ c, c < 10 → h.2.1 146 (((4 * t + s) * 12 + f) * 10 + c) = oI (wsh D M t s f c m)) (de : ∀ i, i < m → D i 4 ≤ e) : ∀ n k, k + n = 48 → bd X (d + 1) 289 4 [(0, vr (some 137)), (1, vi (nI t)), (2, vi (nI s)), (3, vi (nI x)), (4, vi (nI e)), (5, vl (lN N)), (7, vi (nI (agR N (fun c f => wsh D M t s f (x + c) m) e k))), (8, vi (nI k))] [] h = av_rI (nI (agR N (fun c f => wsh D M t s f (x + c) m) e 48)) h
  | 0, k, hk => by
    obtain rfl : k = 48 := by omega
    rw [b_289_4, if_neg (by decide)]
  | n + 1, k, hk => by
    have ih := ageOf_lp w t6 s4 x10 he hN nb Wd de n (k + 1) (by omega)
    have hA := agR_le (N := N) (W := fun c f => wsh D M t s f (x + c) m) (e := e) k
    rw [agR] at ih
    rw [b_289_4, if_pos (show nI k < (48 : Int32) from nI_lt (b := 48) (by omega) (by omega)), nI_1]
    simp only [bitL (show N < 2 ^ 62 by omega) (show k < 64 by omega)]
    by_cases q : N.testBit k = true
    · have k48 : k < 48 := by omega
      have q' := q
      rw [show k = 4 * (k / 4) + k % 4 by omega] at q'
      obtain ⟨-, xc⟩ := nb (k % 4) (by omega) (k / 4) (by omega) q'
      have wd := Wd (k / 4) (by omega) (x + k % 4) xc
      have hp := agP_le e (wsh D M t s (k / 4) (x + k % 4) m)
      rw [if_pos q] at ih
      have k42 : ∀ v, v = agP e (wsh D M t s (k / 4) (x + k % 4) m) → bd X (d + 1) 289 42 [(0, vr (some 137)), (1, vi (nI t)), (2, vi (nI s)), (3, vi (nI x)), (4, vi (nI e)), (5, vl (lN N)), (7, vi (nI (agR N (fun c f => wsh D M t s f (x + c) m) e k))), (8, vi (nI k))] [vi (nI v)] h = av_rI (nI (agR N (fun c f => wsh D M t s f (x + c) m) e 48)) h := fun v ev => by
        subst ev
        rw [← ih, ← nI_max (by omega) (by omega), b_289_42, nI_1]
        split <;> rfl
      rw [if_pos q, gR_137_13 w, if_neg (by decide), if_neg (by decide), show (4 : Int32) = nI 4 from rfl, pk_div (by omega) (by omega) (by omega), pk_mul, pk_sub (by omega), nI_add, show k - k / 4 * 4 = k % 4 by omega, s_paneOf', ld_146 w (by omega), wd]
      cases z : wsh D M t s (k / 4) (x + k % 4) m with
      | none =>
        rw [z] at k42
        rw [if_pos (by decide), b_289_37]
        exact k42 99 rfl
      | some dd =>
        obtain ⟨i, hi, ei⟩ := wsh_in m z
        have dl : dd ≤ e := by rw [ei]; exact de i hi
        rw [z] at k42
        rw [if_neg (show ¬ oI (some dd) < 0 from nI_pos (by omega)), show oI (some dd) = nI dd from rfl, pk_sub dl]
        by_cases y : 99 < e - dd
        · rw [if_pos (show (99 : Int32) < nI (e - dd) from nI_lt (a := 99) y (by omega)), b_289_37]
          exact k42 99 (Nat.min_eq_left (by omega)).symm
        · rw [if_neg (show ¬ (99 : Int32) < nI (e - dd) from nI_nlt (a := 99) (by omega) (by omega))]
          exact k42 _ (Nat.min_eq_right (by omega)).symm
    · rw [if_neg q] at ih ⊢
      exact ih
theorem s_age (w : WF h) {t s x e N Mm m F : Nat} {D : Nat → Nat → Nat} {M : Nat → Nat} (t6 : t < 6) (s4 : s < 4) (x10 : x < 10) (he : e < 100) (hN : N < 2 ^ 48) (nb : ∀ c, c < 4 → ∀ f, f < 12 → N.testBit (4 * f + c) = true → f < F ∧ x + c < 10) (Wd : ∀ f, f < 12 → ∀ c, c < 10 → h.2.1 146 (((4 * t + s) * 12 + f) * 10 + c) = oI (wsh D M t s f c m)) (de : ∀ i, i < m → D i 4 ≤ e) (eq : ∀ c, c < 4 → ∀ f, f < 12 → Mm.testBit (12 * c + f) = N.testBit (4 * f + c)) {r : Nat} (R : agO (fun c f => wsh D M t s f (x + c) m) Mm e r) : ev X (d + 2) 289 [vr (some 137), vi (nI t), vi (nI s), vi (nI x), vi (nI e), vl (lN N)] h = av_rI (nI r) h := by
  rw [agO_u R (agR_O eq), e_289, b_289_0]
  exact ageOf_lp w t6 s4 x10 he hN nb Wd de 48 0 (by omega)
end
