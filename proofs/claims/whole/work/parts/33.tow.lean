/-! the towers: what the class holds of them against the reference -/
theorem rI_bI (b : Bool) (h : av_H) : (if bI b = 0 then av_rI 0 h else av_rI 1 h) = av_rI (bI b) h := by cases b <;> rfl
/-- tower t of the class, an object of its own, against the reference's rows -/
def twA (h : av_H) (t a : Nat) : Prop :=
  226 ≤ a ∧ h.1[a]? = some (9, 0) ∧ h.1[a + 1]? = some (100, 40) ∧ h.1[a + 2]? = some (100, 4) ∧ h.2.2.2 a 5 = some (a + 1) ∧ h.2.2.2 a 6 = some (a + 2) ∧
  (∃ F C W L V : Nat, 1 ≤ F ∧ F ≤ 12 ∧ 1 ≤ C ∧ C ≤ 10 ∧ 1 ≤ W ∧ W ≤ 4 ∧ 1 ≤ L ∧ L ≤ 9999 ∧ V ≤ 9999 ∧ h.2.1 a 0 = nI F ∧ h.2.1 143 t = nI F ∧ h.2.1 a 1 = nI C ∧ h.2.1 144 t = nI C ∧ h.2.1 a 2 = nI W ∧ h.2.1 148 t = nI W ∧ h.2.1 a 3 = nI L ∧ h.2.1 149 t = nI L ∧ h.2.1 a 4 = nI V ∧ h.2.1 150 t = nI V) ∧
  (∀ s, s < 4 → ∀ c, c < 10 → ∃ b : Nat, b < 4096 ∧ h.2.1 (a + 1) (s * 10 + c) = nI b ∧ ∀ f, f < 12 → h.2.1 145 (((4 * t + s) * 12 + f) * 10 + c) = bI (b.testBit f)) ∧
  (∀ s, s < 4 → ∃ b : Nat, b < 1024 ∧ h.2.1 (a + 2) s = nI b ∧ ∀ x, x < 10 → h.2.1 147 ((4 * t + s) * 10 + x) = bI (b.testBit x))
/-- a tower that isn't told: the reference's rows are as they were at first -/
def twN (h : av_H) (t : Nat) : Prop :=
  h.2.1 143 t = 0 ∧ h.2.1 148 t = nI 2 ∧ h.2.1 149 t = nI 1000 ∧ h.2.1 150 t = 0 ∧
  (∀ s, s < 4 → ∀ c, c < 10 → ∀ f, f < 12 → h.2.1 145 (((4 * t + s) * 12 + f) * 10 + c) = 0) ∧ (∀ s, s < 4 → ∀ x, x < 10 → h.2.1 147 ((4 * t + s) * 10 + x) = 0)
def J_tow (h : av_H) : Prop := (∀ t, t < 6 → (h.2.2.2 1 t = none ∧ twN h t) ∨ ∃ a, h.2.2.2 1 t = some a ∧ twA h t a) ∧
  ∀ t u a b, t < 6 → u < 6 → t ≠ u → h.2.2.2 1 t = some a → h.2.2.2 1 u = some b → a + 3 ≤ b ∨ b + 3 ≤ a
/-- the same without the worn rope: what holds while drops are tried -/
def twV (h : av_H) (t a : Nat) : Prop :=
  226 ≤ a ∧ h.1[a]? = some (9, 0) ∧ h.1[a + 1]? = some (100, 40) ∧ h.1[a + 2]? = some (100, 4) ∧ h.2.2.2 a 5 = some (a + 1) ∧ h.2.2.2 a 6 = some (a + 2) ∧
  (∃ F C W L V : Nat, 1 ≤ F ∧ F ≤ 12 ∧ 1 ≤ C ∧ C ≤ 10 ∧ 1 ≤ W ∧ W ≤ 4 ∧ 1 ≤ L ∧ L ≤ 9999 ∧ V ≤ 9999 ∧ h.2.1 a 0 = nI F ∧ h.2.1 143 t = nI F ∧ h.2.1 a 1 = nI C ∧ h.2.1 144 t = nI C ∧ h.2.1 a 2 = nI W ∧ h.2.1 148 t = nI W ∧ h.2.1 a 3 = nI L ∧ h.2.1 149 t = nI L ∧ h.2.1 a 4 = nI V) ∧
  (∀ s, s < 4 → ∀ c, c < 10 → ∃ b : Nat, b < 4096 ∧ h.2.1 (a + 1) (s * 10 + c) = nI b ∧ ∀ f, f < 12 → h.2.1 145 (((4 * t + s) * 12 + f) * 10 + c) = bI (b.testBit f)) ∧
  (∀ s, s < 4 → ∃ b : Nat, b < 1024 ∧ h.2.1 (a + 2) s = nI b ∧ ∀ x, x < 10 → h.2.1 147 ((4 * t + s) * 10 + x) = bI (b.testBit x))
def J_tv (h : av_H) : Prop := (∀ t, t < 6 → (h.2.2.2 1 t = none ∧ h.2.1 143 t = 0) ∨ ∃ a, h.2.2.2 1 t = some a ∧ twV h t a) ∧
  ∀ t u a b, t < 6 → u < 6 → t ≠ u → h.2.2.2 1 t = some a → h.2.2.2 1 u = some b → a + 3 ≤ b ∨ b + 3 ≤ a
theorem twA.v {h : av_H} {t a : Nat} (T : twA h t a) : twV h t a := by
  obtain ⟨b0, b1, b2, b3, b4, b5, ⟨F, C, W, L, V, p1, p2, p3, p4, p5, p6, p7, p8, p9, q1, q2, q3, q4, q5, q6, q7, q8, q9, -⟩, b7, b8⟩ := T
  exact ⟨b0, b1, b2, b3, b4, b5, ⟨F, C, W, L, V, p1, p2, p3, p4, p5, p6, p7, p8, p9, q1, q2, q3, q4, q5, q6, q7, q8, q9⟩, b7, b8⟩
theorem J_tow.v {h : av_H} (J : J_tow h) : J_tv h := ⟨fun t ht => by
  rcases J.1 t ht with ⟨h1, h2⟩ | ⟨a, h1, h2⟩
  · exact Or.inl ⟨h1, h2.1⟩
  · exact Or.inr ⟨a, h1, h2.v⟩, J.2⟩
theorem told_nI {h : av_H} {t : Nat} (ht : t < 6) : told h (nI t) = decide (0 < h.2.1 143 t) := by
  have h1 : rg (nI t) 0 5 = true := by rw [show (0 : Int) = ((0 : Nat) : Int) from rfl, show (5 : Int) = ((5 : Nat) : Int) from rfl, rg_of (by omega)]; simp; omega
  simp only [told, h1, Bool.true_and, nI_clamp (show t < 2 ^ 31 by omega)]
theorem told_ex {h : av_H} (J : J_tow h) {v : Int32} (ht : told h v = true) : ∃ t a, t < 6 ∧ v = nI t ∧ h.2.2.2 1 t = some a ∧ twA h t a := by
  have hr : rg v 0 5 = true := by
    simp only [told, Bool.and_eq_true] at ht
    exact ht.1
  obtain ⟨t, h6, rfl⟩ := rg_nI (b := 5) (by decide) hr
  rw [told_nI (by omega), decide_eq_true_eq] at ht
  rcases J.1 t (by omega) with ⟨h1, h2⟩ | ⟨a, h1, h2⟩
  · rw [h2.1] at ht
    exact absurd ht (by decide)
  · exact ⟨t, a, by omega, rfl, h1, h2⟩
theorem told_exV {h : av_H} (J : J_tv h) {v : Int32} (ht : told h v = true) : ∃ t a, t < 6 ∧ v = nI t ∧ h.2.2.2 1 t = some a ∧ twV h t a := by
  have hr : rg v 0 5 = true := by
    simp only [told, Bool.and_eq_true] at ht
    exact ht.1
  obtain ⟨t, h6, rfl⟩ := rg_nI (b := 5) (by decide) hr
  rw [told_nI (by omega), decide_eq_true_eq] at ht
  rcases J.1 t (by omega) with ⟨h1, h2⟩ | ⟨a, h1, h2⟩
  · rw [h2] at ht
    exact absurd ht (by decide)
  · exact ⟨t, a, by omega, rfl, h1, h2⟩
theorem told_noV {h : av_H} (J : J_tv h) {t : Nat} (h6 : t < 6) (ht : told h (nI t) = false) : h.2.2.2 1 t = none := by
  rw [told_nI h6, decide_eq_false_iff_not] at ht
  rcases J.1 t h6 with h1 | ⟨a, h1, h2⟩
  · exact h1.1
  · obtain ⟨F, C, W, L, V, q1, q2, -, -, -, -, -, -, -, -, q3, -⟩ := h2.2.2.2.2.2.2.1
    rw [q3] at ht
    exact absurd (by rw [show (0 : Int32) = nI 0 from rfl]; exact nI_lt (by omega) (by omega)) ht
theorem told_no {h : av_H} (J : J_tow h) {t : Nat} (h6 : t < 6) (ht : told h (nI t) = false) : h.2.2.2 1 t = none ∧ twN h t := by
  rw [told_nI h6, decide_eq_false_iff_not] at ht
  rcases J.1 t h6 with h1 | ⟨a, h1, h2⟩
  · exact h1
  · obtain ⟨F, C, W, L, V, q1, q2, -, -, -, -, -, -, -, -, q3, -⟩ := h2.2.2.2.2.2.2.1
    rw [q3] at ht
    exact absurd (by rw [show (0 : Int32) = nI 0 from rfl]; exact nI_lt (by omega) (by omega)) ht
theorem told_yes {h : av_H} {t a : Nat} (h6 : t < 6) (T : twA h t a) : told h (nI t) = true := by
  rw [told_nI h6, decide_eq_true_eq]
  obtain ⟨F, C, W, L, V, q1, q2, -, -, -, -, -, -, -, -, q3, -⟩ := T.2.2.2.2.2.2.1
  rw [q3]
  show nI 0 < nI F
  exact nI_lt (by omega) (by omega)
/-- a stop, a pane -/
def isStp (h : av_H) (t s x : Int32) : Bool := told h t && rg s 0 3 && rg x 0 ((h.2.1 144 t.toNatClampNeg).toInt - 1)
def isPan (h : av_H) (t s f c : Int32) : Bool := told h t && rg s 0 3 && rg f 0 ((h.2.1 143 t.toNatClampNeg).toInt - 1) && rg c 0 ((h.2.1 144 t.toNatClampNeg).toInt - 1)
/-- what the reference alone keeps to: floors and columns in bounds -/
def R_tow (h : av_H) : Prop := ∀ t, t < 6 → h.2.1 143 t = 0 ∨ ∃ F C : Nat, 1 ≤ F ∧ F ≤ 12 ∧ 1 ≤ C ∧ C ≤ 10 ∧ h.2.1 143 t = nI F ∧ h.2.1 144 t = nI C
theorem J_tow.R {h : av_H} (J : J_tow h) : R_tow h := fun t ht => by
  rcases J.1 t ht with ⟨-, h2⟩ | ⟨a, -, h2⟩
  · exact Or.inl h2.1
  · obtain ⟨F, C, W, L, V, p1, p2, p3, p4, -, -, -, -, -, -, q2, -, q4, -⟩ := h2.2.2.2.2.2.2.1
    exact Or.inr ⟨F, C, p1, p2, p3, p4, q2, q4⟩
theorem J_tv.R {h : av_H} (J : J_tv h) : R_tow h := fun t ht => by
  rcases J.1 t ht with ⟨-, h2⟩ | ⟨a, -, h2⟩
  · exact Or.inl h2
  · obtain ⟨F, C, W, L, V, p1, p2, p3, p4, -, -, -, -, -, -, q2, -, q4, -⟩ := h2.2.2.2.2.2.2.1
    exact Or.inr ⟨F, C, p1, p2, p3, p4, q2, q4⟩
theorem R_tow.ex {h : av_H} (J : R_tow h) {v : Int32} (ht : told h v = true) : ∃ t F C : Nat, t < 6 ∧ v = nI t ∧ 1 ≤ F ∧ F ≤ 12 ∧ 1 ≤ C ∧ C ≤ 10 ∧ h.2.1 143 t = nI F ∧ h.2.1 144 t = nI C := by
  have hr : rg v 0 5 = true := by
    simp only [told, Bool.and_eq_true] at ht
    exact ht.1
  obtain ⟨t, h6, rfl⟩ := rg_nI (b := 5) (by decide) hr
  rw [told_nI (by omega), decide_eq_true_eq] at ht
  rcases J t (by omega) with h1 | ⟨F, C, h2⟩
  · rw [h1] at ht
    exact absurd ht (by decide)
  · exact ⟨t, F, C, by omega, rfl, h2⟩
section
variable {X : av_X} {d : Nat} {h : av_H}
theorem toI_sub1 {n : Nat} (h1 : n ≤ 1000) : (nI n - 1).toInt = (n : Int) - 1 := by
  cases n with
  | zero => rfl
  | succ k => rw [show nI (k + 1) - 1 = nI k from nI_pred k, nI_toInt (by omega)]; push_cast; omega
theorem s_isStop (w : WF h) (J : R_tow h) (t s x : Int32) : ev X (d + 3) 260 [vr (some 137), vi t, vi s, vi x] h = av_rI (bI (isStp h t s x)) h := by
  simp (disch := first | assumption | omega) only [e_260, b_260_0, ↓s_isTower', ↓s_isSide', ↓is_137, av_cI_r, av_cL_r, av_cV_r, Option.bind_some, ↓zb_0, ↓zb_1, ↓zb_b, bI_0]
  by_cases ht : told h t = true
  · obtain ⟨j, F, C, h6, rfl, p1, p2, p3, p4, q2, q4⟩ := J.ex ht
    cases hs : rg s 0 3 with
    | false => simp [ht, hs, isStp, bI]
    | true =>
      simp (disch := first | assumption | omega) only [ht, hs, ↓is_137, ↓gR_137_11, ↓ld_144, ↓st_144, ↓ln_144, ↓s_within', av_cI_r, av_cL_r, av_cV_r, Option.bind_some, ↓zb_0, ↓zb_1, ↓zb_b, q4, isStp, nI_clamp, Bool.true_and, Bool.true_eq_false, if_false, tI_0, toI_sub1, toI_nI, rI_bI]
  · simp [ht, isStp, bI]
theorem s_isStop' (w : WF h) (J : R_tow h) (t s x : Int32) {β : Type} (Kc : Int32 × av_H → Option β) : (av_cI (ev X (d + 3) 260 [vr (some 137), vi t, vi s, vi x] h)).bind Kc = Kc (bI (isStp h t s x), h) := by rw [s_isStop w J t s x]; rfl
end
